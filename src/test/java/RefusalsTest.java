import java.util.ArrayList;
import java.util.List;
import java.util.function.Supplier;

/**
 * Each refusal of each promise, with its answer, and with all that can be asked for behind it: it must be as
 * without the refused call, but for count(8), which a FINDING changes and no other refusal. Calls that only ask
 * must change nothing either.
 */
public final class RefusalsTest extends Check {
  interface Call {
    long on(ToastGaol x);
  }

  /** The finding that stands before the refused call: one that no refused call here leaves by chance. */
  private static final int BEFORE = 4;

  public static void main(String[] args) {
    State empty = new State("a new object", RefusalsTest::empty);
    State full = new State("all that there may be", RefusalsTest::full);
    State broken = new State("texts with a fault", RefusalsTest::broken);
    for (State state : new State[] {empty, full, broken}) badTexts(state);
    for (State state : new State[] {empty, full, broken}) badNumbers(state);
    for (State state : new State[] {empty, full, broken}) badPlans(state);
    for (State state : new State[] {empty, full, broken}) badSheets(state);
    for (State state : new State[] {empty, broken}) noSlices(state);
    outsideOfAll(full);
    notAndFull(empty, full, broken);
    lostSheets(empty, full);
    otherFindings(full);
    for (State state : new State[] {empty, full, broken}) onlyAsked(state);
    changesAreSeen(empty, full, broken);
    System.out.println(State.refused + " refused calls were made");
    end();
  }

  private static ToastGaol empty() {
    ToastGaol x = new ToastGaol();
    x.sheet(0, 0, 1);
    x.sheet(1, 1, 1);
    x.copy(0, 0, 1, 0, 1);
    x.lose(0);
    x.lose(1);
    return x;
  }

  private static ToastGaol full() {
    ToastGaol x = gaol("3142059678", "w400;c991;b882;t773;w660;c551;b449;t338");
    x.set(0, 12);
    x.set(1, 1);
    x.set(2, 30);
    int[][] butters = {{2, 0}, {29, 6}, {4, 1}, {4, 2}, {0, 7}, {9, 4}, {12, 1}, {20, 5}};
    for (int[] b : butters) x.butter(b[0], b[1]);
    for (int hour : new int[] {0, 3, 3, 29}) x.fire(hour);
    for (int i = 0; i < 8; i++) x.seen(3 * i, i, x.state(3 * i, i));
    x.sheet(0, 0, 5);
    x.sheet(1, 1, 60);
    x.sheet(2, 2, 6);
    for (int i = 0; i < 5; i++) x.lay(0, 0, i, 100 + 20 * i);
    for (int i = 0; i < 6; i++) x.lay(1, 1, 10 * i, 30000 + 1000 * i);
    for (int i = 0; i < 6; i++) x.lay(2, 2, i, 1 + i);
    x.copy(0, 0, 1, 0, 1);
    return x;
  }

  private static ToastGaol broken() {
    ToastGaol x = gaol("31/4", "w400;c991;");
    x.butter(0, 0);
    x.fire(0);
    x.seen(0, 0, 1);
    x.sheet(3, 2, 0);
    x.sheet(0, 0, 3);
    x.copy(3, 0, 0, 0, 0);
    return x;
  }

  /** How an object may be, and all that can be asked of it. */
  record State(String name, Supplier<ToastGaol> maker, List<List<Long>> before) {
    static int refused = 0;

    State(String name, Supplier<ToastGaol> maker) {
      this(name, maker, portraits(maker, x -> 0));
    }

    void bad(int promise, String what, Call call) {
      refuses(promise, what, call, BAD, BEFORE);
    }

    void finds(int promise, String what, Call call, int finding) {
      refuses(promise, what, call, finding, -10 - finding);
    }

    void refuses(int promise, String what, Call call, long want, int finding) {
      refused++;
      String told = name + ": " + what;
      ToastGaol x = maker.get();
      due(promise, told + ": count(8) before", x.count(8), BEFORE);
      due(promise, told, call.on(x), want);
      due(promise, told + ": count(8)", x.count(8), finding);
      due(promise, told + ": once more", call.on(x), want);
      same(promise, told, call);
    }

    /** What a call leaves must be as before it. */
    void same(int promise, String told, Call call) {
      List<List<Long>> behind = portraits(maker, call);
      for (int part = 0; part < before.size(); part++) {
        due(promise, told + " changed something, part " + part, before.get(part).equals(behind.get(part)) ? 0 : 1, 0);
      }
    }

    /** What a call leaves must not be as before it: so that it is seen that same() would see it. */
    void changes(int promise, String told, Call call) {
      due(promise, told + " changed nothing", before.equals(portraits(maker, call)) ? 1 : 0, 0);
    }
  }

  // ---- all that can be asked of an object, each part of a new one, since it may be used for 512 calls

  private static List<List<Long>> portraits(Supplier<ToastGaol> maker, Call call) {
    List<List<Long>> all = new ArrayList<>();
    for (int part = 0; part < 6; part++) {
      ToastGaol x = maker.get();
      call.on(x);
      List<Long> of = new ArrayList<>();
      switch (part) {
        case 0: told(x, of); break;
        case 1: heats(x, of); break;
        case 2: states(x, of); break;
        case 3: found(x, of); break;
        case 4: sheets(x, of); break;
        default: undone(x, of); break;
      }
      all.add(of);
    }
    return all;
  }

  private static void told(ToastGaol x, List<Long> of) {
    for (int what = 0; what <= 7; what++) of.add((long) x.count(what));
    for (int text = 0; text <= 1; text++) of.add((long) x.fault(text));
    for (int slot = 0; slot <= 9; slot++) of.add((long) x.draws(slot));
    for (int slice = 0; slice <= 7; slice++) for (int what = 0; what <= 2; what++) of.add((long) x.slice(slice, what));
    for (int hour = 0; hour < 30; hour++) of.add((long) x.held(hour));
    for (int hour = 0; hour < 30; hour++) of.add((long) x.ask(hour));
    for (int slice = 0; slice <= 7; slice++) for (int what = 0; what <= 1; what++) of.add((long) x.freed(slice, what));
    of.add((long) x.spoilt());
    of.add((long) x.quiet());
    for (int what = 0; what <= 1; what++) of.add((long) x.crowd(what));
    of.add(x.digest());
  }

  private static void heats(ToastGaol x, List<Long> of) {
    for (int hour = 0; hour < 30; hour++) for (int slice = 0; slice <= 7; slice++) of.add((long) x.heat(hour, slice));
  }

  private static void states(ToastGaol x, List<Long> of) {
    for (int hour = 0; hour < 30; hour++) for (int slice = 0; slice <= 7; slice++) of.add((long) x.state(hour, slice));
  }

  private static void found(ToastGaol x, List<Long> of) {
    for (int slice = 0; slice <= 7; slice++) {
      for (int what = 0; what <= 1; what++) of.add((long) x.move(slice, what));
      of.add((long) x.line(slice));
      for (int i : new int[] {NONE, 0, 1, 50, 99}) of.add((long) x.heats(slice, i));
      of.add((long) x.slots(slice));
      for (int what = 0; what <= 1; what++) of.add(x.window(5, 3, slice, 9, what));
    }
    for (int what = 0; what <= 2; what++) of.add((long) x.swap(what));
    of.add((long) x.bear());
    for (int seed = 0; seed < 5; seed++) for (int what = 0; what <= 1; what++) of.add((long) x.others(seed, what));
  }

  private static void sheets(ToastGaol x, List<Long> of) {
    for (int s = 0; s <= 3; s++) {
      int form = 0;
      for (int f = 0; f <= 2; f++) {
        of.add((long) x.lay(s, f, -1, 0));
        if (of.get(of.size() - 1) == INDEX) form = f;
      }
      for (int i = 0; i <= 60; i++) of.add((long) x.get(s, form, i));
      of.add((long) x.lose(s));
    }
  }

  /** Takes away, from the last on, all that was told, and looks at what each of it did. */
  private static void undone(ToastGaol x, List<Long> of) {
    int[] easy = {0, 0, 0};
    for (int what = 0; what <= 2; what++) of.add((long) x.set(what, easy[what]));
    for (int what = 0; what <= 1; what++) {
      for (int i = 0; i < 9; i++) {
        for (int hour : new int[] {0, 3, 29}) of.add((long) x.heat(hour, 0));
        of.add((long) x.spoilt());
        of.add((long) x.quiet());
        of.add((long) x.back(what));
      }
    }
    of.add((long) x.heats(0, NONE));
    of.add((long) x.forget());
    of.add((long) x.heats(0, NONE));
    for (int text = 0; text <= 1; text++) {
      for (int i = 0; i < 40; i++) {
        of.add((long) x.fault(text));
        of.add((long) x.undo(text));
      }
    }
  }

  // ---- BAD: a number not as told, no such thing

  private static void badTexts(State state) {
    for (int v : outside(1)) {
      state.bad(2, "type(" + v + ", ..)", x -> x.type(v, '1'));
      state.bad(3, "wipe(" + v + ")", x -> x.wipe(v));
      state.bad(4, "undo(" + v + ")", x -> x.undo(v));
      state.bad(5, "fault(" + v + ")", x -> x.fault(v));
    }
    for (int v : outside(255)) for (int text = 0; text <= 1; text++) {
      int t = text;
      state.bad(2, "type(" + t + ", " + v + ")", x -> x.type(t, v));
    }
  }

  private static void badNumbers(State state) {
    int[] most = {30, 9, 99};
    for (int what = 0; what <= 2; what++) for (int v : outside(most[what])) {
      int w = what;
      state.bad(8, "set(" + w + ", " + v + ")", x -> x.set(w, v));
    }
    for (int v : outside(2)) state.bad(8, "set(" + v + ", 5)", x -> x.set(v, 5));
    for (int v : outside(29)) {
      state.bad(9, "butter(" + v + ", 0)", x -> x.butter(v, 0));
      state.bad(10, "fire(" + v + ")", x -> x.fire(v));
      state.bad(13, "heat(" + v + ", 0)", x -> x.heat(v, 0));
      state.bad(14, "state(" + v + ", 0)", x -> x.state(v, 0));
      state.bad(15, "held(" + v + ")", x -> x.held(v));
      state.bad(24, "seen(" + v + ", 0, 0)", x -> x.seen(v, 0, 0));
      state.bad(28, "ask(" + v + ")", x -> x.ask(v));
    }
    for (int v : outside(7)) {
      state.bad(9, "butter(0, " + v + ")", x -> x.butter(0, v));
      state.bad(24, "seen(0, " + v + ", 0)", x -> x.seen(0, v, 0));
    }
    for (int v : outside(3)) state.bad(24, "seen(0, 0, " + v + ")", x -> x.seen(0, 0, v));
    for (int v : outside(1)) state.bad(11, "back(" + v + ")", x -> x.back(v));
    for (int v : outside(8)) state.bad(37, "count(" + v + ")", x -> x.count(v));
  }

  private static void badPlans(State state) {
    for (int v : outside(9)) {
      state.bad(6, "draws(" + v + ")", x -> x.draws(v));
      state.refuses(29, "window(5, " + v + ", 0, 9, 0)", x -> x.window(5, v, 0, 9, 0), BAD_LONG, BEFORE);
    }
    for (int v : outside(7)) {
      for (int what = 0; what <= 2; what++) {
        int w = what;
        state.bad(7, "slice(" + v + ", " + w + ")", x -> x.slice(v, w));
      }
      state.bad(13, "heat(0, " + v + ")", x -> x.heat(0, v));
      state.bad(14, "state(0, " + v + ")", x -> x.state(0, v));
      for (int what = 0; what <= 1; what++) {
        int w = what;
        state.bad(16, "freed(" + v + ", " + w + ")", x -> x.freed(v, w));
        state.bad(20, "move(" + v + ", " + w + ")", x -> x.move(v, w));
        state.refuses(29, "window(5, 5, " + v + ", 9, " + w + ")", x -> x.window(5, 5, v, 9, w), BAD_LONG, BEFORE);
      }
      state.bad(22, "line(" + v + ")", x -> x.line(v));
      state.bad(26, "heats(" + v + ", NONE)", x -> x.heats(v, NONE));
      state.bad(27, "slots(" + v + ")", x -> x.slots(v));
    }
    for (int v : outside(1)) {
      state.bad(19, "crowd(" + v + ")", x -> x.crowd(v));
      state.bad(30, "others(7, " + v + ")", x -> x.others(7, v));
    }
    for (int v : outside(2)) state.bad(21, "swap(" + v + ")", x -> x.swap(v));
  }

  private static void badSheets(State state) {
    for (int v : outside(3)) {
      state.bad(12, "read(" + v + ")", x -> x.read(v));
      state.bad(31, "sheet(" + v + ", 0, 1)", x -> x.sheet(v, 0, 1));
      state.bad(31, "sheet(" + v + ", 0, -1), ahead of SIZE", x -> x.sheet(v, 0, -1));
      state.bad(32, "lose(" + v + ")", x -> x.lose(v));
      state.bad(33, "lay(" + v + ", ..)", x -> x.lay(v, 0, 0, 1));
      state.refuses(34, "get(" + v + ", ..)", x -> x.get(v, 0, 0), LOW, BEFORE);
      for (int t = 0; t <= 3; t++) {
        int s = t;
        state.bad(35, "copy(" + v + ", .., " + s + ", ..)", x -> x.copy(v, 0, s, 0, 1));
        state.bad(35, "copy(" + s + ", .., " + v + ", ..)", x -> x.copy(s, 0, v, 0, 1));
      }
      state.bad(36, "write(0, " + v + ")", x -> x.write(0, v));
    }
    for (int s = 0; s <= 3; s++) {
      int t = s;
      for (int v : outside(2)) {
        state.bad(31, "sheet(" + t + ", " + v + ", 1)", x -> x.sheet(t, v, 1));
        state.bad(31, "sheet(" + t + ", " + v + ", -1), ahead of SIZE", x -> x.sheet(t, v, -1));
        state.bad(33, "lay(" + t + ", " + v + ", ..)", x -> x.lay(t, v, 0, 1));
        state.refuses(34, "get(" + t + ", " + v + ", ..)", x -> x.get(t, v, 0), LOW, BEFORE);
      }
      for (int v : new int[] {61, HIGH}) state.bad(31, "sheet(" + t + ", 0, " + v + ")", x -> x.sheet(t, 0, v));
      for (int v : outside(29)) state.bad(36, "write(" + v + ", " + t + ")", x -> x.write(v, t));
    }
  }

  /** Without slots and slices the first of them is no such thing. */
  private static void noSlices(State state) {
    state.bad(6, "draws(0)", x -> x.draws(0));
    for (int what = 0; what <= 1; what++) {
      int w = what;
      state.bad(7, "slice(0, ..)", x -> x.slice(0, w));
      state.bad(16, "freed(0, ..)", x -> x.freed(0, w));
      state.bad(20, "move(0, ..)", x -> x.move(0, w));
      state.refuses(29, "window(.., 0, ..)", x -> x.window(16, 9, 0, 29, w), BAD_LONG, BEFORE);
    }
    for (int hour = 0; hour < 30; hour += 29) {
      int h = hour;
      state.bad(13, "heat(.., 0)", x -> x.heat(h, 0));
      state.bad(14, "state(.., 0)", x -> x.state(h, 0));
    }
    state.bad(22, "line(0)", x -> x.line(0));
    for (int i : new int[] {NONE, 0, 99}) state.bad(26, "heats(0, " + i + ")", x -> x.heats(0, i));
    state.bad(27, "slots(0)", x -> x.slots(0));
  }

  /** Where the slice is there, so that it is the other number that is not as told. */
  private static void outsideOfAll(State full) {
    for (int slice = 0; slice <= 7; slice += 7) {
      int s = slice;
      for (int v : outside(2)) full.bad(7, "slice(" + s + ", " + v + ")", x -> x.slice(s, v));
      for (int v : outside(1)) {
        full.bad(16, "freed(" + s + ", " + v + ")", x -> x.freed(s, v));
        full.bad(20, "move(" + s + ", " + v + ")", x -> x.move(s, v));
        full.refuses(29, "window(.., " + s + ", 9, " + v + ")", x -> x.window(5, 5, s, 9, v), BAD_LONG, BEFORE);
      }
      for (int v : new int[] {-2, 100, LOW, HIGH}) full.bad(26, "heats(" + s + ", " + v + ")", x -> x.heats(s, v));
      for (int v : outside(16)) full.refuses(29, "window(" + v + ", ..)", x -> x.window(v, 5, s, 9, 0), BAD_LONG, BEFORE);
      for (int v : outside(29)) full.refuses(29, "window(.., " + v + ", 0)", x -> x.window(5, 5, s, v, 0), BAD_LONG, BEFORE);
    }
  }

  // ---- NOT and FULL

  private static void notAndFull(State empty, State full, State broken) {
    for (int text = 0; text <= 1; text++) {
      int t = text;
      empty.refuses(4, "undo(" + t + ")", x -> x.undo(t), NOT, BEFORE);
      empty.refuses(11, "back(" + t + ")", x -> x.back(t), NOT, BEFORE);
      for (int b : new int[] {'0', ';', 'w', 0, 255}) full.refuses(2, "type(" + t + ", " + b + ")", x -> x.type(t, b), FULL, BEFORE);
    }
    full.refuses(9, "butter(0, 0)", x -> x.butter(0, 0), FULL, BEFORE);
    full.refuses(9, "butter(29, 7)", x -> x.butter(29, 7), FULL, BEFORE);
    full.refuses(10, "fire(0)", x -> x.fire(0), FULL, BEFORE);
    full.refuses(10, "fire(29)", x -> x.fire(29), FULL, BEFORE);
    full.refuses(24, "seen(0, 0, 0)", x -> x.seen(0, 0, 0), FULL, BEFORE);
    full.refuses(24, "seen(29, 7, 3)", x -> x.seen(29, 7, 3), FULL, BEFORE);
    // no refusal, and yet nothing comes of it
    for (int s : new int[] {0, 1, 2}) {
      due(12, "read where butters are full", full.maker.get().read(s), 0);
      full.same(12, "read where butters are full", x -> x.read(s));
    }
    due(12, "read of no items", broken.maker.get().read(3), 0);
    broken.same(12, "read of no items", x -> x.read(3));
    due(36, "write without slices", broken.maker.get().write(0, 0), 0);
    broken.same(36, "write without slices", x -> x.write(0, 0));
    due(25, "forget none", empty.maker.get().forget(), 0);
    empty.same(25, "forget none", x -> x.forget());
    for (int text = 0; text <= 1; text++) {
      int t = text;
      due(3, "wipe of an empty text", empty.maker.get().wipe(t), 0);
      empty.same(3, "wipe of an empty text", x -> x.wipe(t));
    }
  }

  // ---- FINDINGS

  private static void lostSheets(State empty, State full) {
    for (State state : new State[] {empty, full}) {
      state.finds(12, "read(3)", x -> x.read(3), NULL);
      state.finds(32, "lose(3)", x -> x.lose(3), NULL);
      state.finds(36, "write(29, 3)", x -> x.write(29, 3), NULL);
      for (int form = 0; form <= 2; form++) {
        int f = form;
        for (int i : new int[] {0, -1, 60}) {
          state.finds(33, "lay(3, " + f + ", " + i + ", 1), ahead of INDEX", x -> x.lay(3, f, i, 1), NULL);
          state.refuses(34, "get(3, " + f + ", " + i + "), ahead of INDEX", x -> x.get(3, f, i), LOW, 1);
        }
      }
      for (int s = 0; s <= 3; s++) {
        int t = s;
        state.finds(35, "copy(3, .., " + t + ", ..)", x -> x.copy(3, 0, t, 0, 1), NULL);
        state.finds(35, "copy(" + t + ", .., 3, ..), ahead of INDEX", x -> x.copy(t, -1, 3, -1, -1), NULL);
      }
      for (int s = 0; s <= 3; s++) for (int n : new int[] {-1, LOW}) {
        int t = s;
        for (int form = 0; form <= 2; form++) {
          int f = form;
          state.finds(31, "sheet(" + t + ", " + f + ", " + n + ")", x -> x.sheet(t, f, n), SIZE);
        }
      }
    }
  }

  private static void otherFindings(State full) {
    int[] sizes = {5, 60, 6};
    for (int s = 0; s <= 2; s++) {
      int t = s;
      for (int i : outside(sizes[s] - 1)) {
        full.finds(33, "lay(" + t + ", .., " + i + ", 1)", x -> x.lay(t, t, i, 1), INDEX);
        full.refuses(34, "get(" + t + ", .., " + i + ")", x -> x.get(t, t, i), LOW, 2);
      }
      for (int form = 0; form <= 2; form++) {
        int f = form;
        if (f == t) continue;
        for (int i : new int[] {0, -1, 60}) {
          full.finds(33, "lay(" + t + ", " + f + ", " + i + ", 1), ahead of INDEX", x -> x.lay(t, f, i, 1), CAST);
          full.refuses(34, "get(" + t + ", " + f + ", " + i + "), ahead of INDEX", x -> x.get(t, f, i), LOW, 3);
          // STORE stands before these already, so that only the answer tells
          full.refuses(35, "copy(" + t + ", .., " + f + ", ..), ahead of INDEX", x -> x.copy(t, i, f, i, 1), STORE, 4);
        }
      }
      int n = sizes[s];
      int[][] runs = {{-1, 0, 1}, {0, -1, 1}, {0, 0, -1}, {0, 0, n + 1}, {1, 0, n}, {0, 1, n}, {n, 0, 1}, {0, n, 1}, {n + 1, 0, 0}, {0, n + 1, 0}, {HIGH, 0, 1}, {1, 0, HIGH}, {0, 0, LOW}};
      for (int[] r : runs) full.finds(35, "copy(" + t + ", " + r[0] + ", " + t + ", " + r[1] + ", " + r[2] + ")", x -> x.copy(t, r[0], t, r[1], r[2]), INDEX);
    }
  }

  // ---- calls that only ask

  private static void onlyAsked(State state) {
    state.same(38, "digest", x -> x.digest());
    state.same(17, "spoilt", x -> x.spoilt());
    state.same(18, "quiet", x -> x.quiet());
    state.same(23, "bear", x -> x.bear());
    for (int hour : new int[] {0, 13, 29}) {
      state.same(15, "held", x -> x.held(hour));
      state.same(28, "ask", x -> x.ask(hour));
    }
    for (int what = 0; what <= 8; what++) {
      int w = what;
      state.same(37, "count", x -> x.count(w));
      if (w > 2) continue;
      state.same(21, "swap", x -> x.swap(w));
      if (w > 1) continue;
      state.same(5, "fault", x -> x.fault(w));
      state.same(19, "crowd", x -> x.crowd(w));
      state.same(30, "others", x -> x.others(99, w));
    }
    for (int slice = 0; slice <= 7; slice++) {
      int s = slice;
      state.same(6, "draws", x -> x.draws(s));
      state.same(7, "slice", x -> x.slice(s, 1));
      state.same(13, "heat", x -> x.heat(13, s));
      state.same(14, "state", x -> x.state(13, s));
      state.same(16, "freed", x -> x.freed(s, 0));
      state.same(20, "move", x -> x.move(s, 0));
      state.same(22, "line", x -> x.line(s));
      state.same(26, "heats", x -> x.heats(s, 0));
      state.same(27, "slots", x -> x.slots(s));
      state.same(29, "window", x -> x.window(7, 9, s, 20, 0));
    }
    state.same(34, "get", x -> x.get(0, 0, 0));
  }

  // ---- calls that are taken

  private static void changesAreSeen(State empty, State full, State broken) {
    for (int text = 0; text <= 1; text++) {
      int t = text;
      empty.changes(2, "type", x -> x.type(t, 0));
      full.changes(3, "wipe", x -> x.wipe(t));
      full.changes(4, "undo", x -> x.undo(t));
      broken.changes(4, "undo", x -> x.undo(t));
      full.changes(11, "back", x -> x.back(t));
    }
    int[] were = {12, 1, 30};
    for (int what = 0; what <= 2; what++) {
      int w = what;
      full.changes(8, "set(" + w + ", ..)", x -> x.set(w, were[w] + 1));
      full.same(8, "set(" + w + ", ..) to what it is", x -> x.set(w, were[w]));
    }
    empty.changes(9, "butter", x -> x.butter(29, 7));
    empty.changes(10, "fire", x -> x.fire(29));
    broken.changes(24, "seen", x -> x.seen(29, 7, 3));
    full.changes(25, "forget", x -> x.forget());
    empty.changes(31, "sheet", x -> x.sheet(3, 2, 0));
    full.changes(31, "sheet", x -> x.sheet(2, 2, 6));
    full.changes(32, "lose", x -> x.lose(0));
    full.changes(33, "lay", x -> x.lay(1, 1, 59, 1));
    full.changes(35, "copy", x -> x.copy(2, 0, 2, 1, 5));
    full.changes(36, "write", x -> x.write(0, 0));
  }
}
