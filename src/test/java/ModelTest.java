import java.lang.reflect.InvocationTargetException;
import java.lang.reflect.Method;
import java.math.BigInteger;
import java.util.ArrayList;
import java.util.Arrays;
import java.util.List;
import java.util.Random;
import java.util.regex.Matcher;
import java.util.regex.Pattern;

/**
 * Long runs of calls, by chance but always the same, on ToastGaol and on a second reading of the document
 * that is slow and uses all of Java (the machine's own exceptions for FINDINGS): every answer must be alike.
 */
public final class ModelTest {
  static final int RUNS = 250, CALLS = 512;
  static int wrong = 0;

  public static void main(String[] args) throws Exception {
    Method[] face = Arrays.stream(ToastGaol.class.getDeclaredMethods())
        .filter(m -> java.lang.reflect.Modifier.isPublic(m.getModifiers()))
        .sorted((a, b) -> a.getName().compareTo(b.getName())).toArray(Method[]::new);
    if (face.length != 38 - 1) throw new IllegalStateException("the face has " + face.length + " methods");
    int[] calls = new int[face.length], well = new int[face.length];
    for (int run = 0; run < RUNS && wrong < 20; run++) oneRun(run, face, calls, well);
    for (int m = 0; m < face.length; m++) {
      if (calls[m] < 100 || well[m] < 50) {
        wrong++;
        System.out.println(face[m].getName() + " was called " + calls[m] + " times, " + well[m] + " not refused: too few");
      }
    }
    System.out.println(wrong == 0 ? RUNS + " runs are as the model has them" : wrong + " answers are not as due");
    if (wrong != 0) System.exit(1);
  }

  static void oneRun(int run, Method[] face, int[] calls, int[] well) throws Exception {
    Random chance = new Random(run * 7919L + 5);
    ToastGaol gaol = new ToastGaol();
    Model model = new Model();
    List<String> told = new ArrayList<>();
    Caller caller = new Caller(gaol, model, told, run);
    if (run % 10 != 9) setUp(chance, caller, run);
    while (told.size() < CALLS && wrong < 20) {
      int m = chance.nextInt(face.length);
      String name = face[m].getName();
      // texts once set up are seldom touched, and dear calls are rare
      if (List.of("type", "wipe", "undo").contains(name) && chance.nextInt(6) != 0) continue;
      if (name.equals("window") && chance.nextInt(6) != 0) continue;
      if (name.equals("digest") && chance.nextInt(3) != 0) continue;
      if (name.equals("forget") && chance.nextInt(3) != 0) continue;
      int[] a = new int[face[m].getParameterCount()];
      for (int i = 0; i < a.length; i++) a[i] = argument(chance, name, i);
      long answer = caller.call(face[m], a);
      calls[m]++;
      if (answer >= -1 || name.equals("digest")) well[m]++;
      if (List.of("wipe", "undo").contains(name) || name.equals("type") && chance.nextInt(3) != 0) retype(chance, caller, a[0]);
    }
  }

  static void retype(Random chance, Caller caller, int text) throws Exception {
    if (text != 0 && text != 1 || chance.nextInt(8) == 0) return;
    caller.call(ToastGaol.class.getMethod("wipe", int.class), text);
    typeText(chance, caller, text);
  }

  static void setUp(Random chance, Caller caller, int run) throws Exception {
    typeText(chance, caller, 0);
    typeText(chance, caller, 1);
  }

  static void typeText(Random chance, Caller caller, int text) throws Exception {
    StringBuilder b = new StringBuilder();
    if (text == 0) {
      int slots = 1 + chance.nextInt(10), calm = 1 + chance.nextInt(10);
      for (int i = 0; i < slots; i++) b.append(chance.nextInt(calm));
    } else {
      int slices = 1 + chance.nextInt(8), width = 1 + chance.nextInt(10);
      for (int i = 0; i < slices; i++) {
        if (i > 0) b.append(';');
        b.append("wcbt".charAt(chance.nextInt(4)));
        b.append(chance.nextInt(10)).append(chance.nextInt(10)).append(chance.nextInt(width));
      }
    }
    if (chance.nextInt(30) == 0) b.append((char) chance.nextInt(256));
    Method type = ToastGaol.class.getMethod("type", int.class, int.class);
    for (int i = 0; i < b.length(); i++) caller.call(type, text, b.charAt(i));
  }

  static final int[] ODD = {-1, -2, Integer.MIN_VALUE, Integer.MAX_VALUE, 10, 30, 31, 60, 61, 100, 255, 256, 8, 17, 4, 3};

  static int argument(Random chance, String name, int place) {
    if (chance.nextInt(25) == 0) return ODD[chance.nextInt(ODD.length)];
    String key = name + place;
    switch (key) {
      case "type0": case "wipe0": case "undo0": case "fault0": return chance.nextInt(2);
      case "type1": return "0123456789wcbt;:/x".charAt(chance.nextInt(18));
      case "draws0": return chance.nextInt(10);
      case "set0": return chance.nextInt(3);
      case "set1": return chance.nextInt(chance.nextBoolean() ? 10 : 100);
      case "slice1": case "swap0": return chance.nextInt(3);
      case "back0": case "freed1": case "crowd0": case "move1": case "others1": case "window4": return chance.nextInt(2);
      case "butter0": case "fire0": case "heat0": case "state0": case "held0": case "seen0": case "ask0": case "window3": case "write0":
        return chance.nextInt(chance.nextInt(3) == 0 ? 30 : 8);
      case "seen2": return chance.nextInt(4);
      case "heats1": return chance.nextInt(4) == 0 ? -1 : chance.nextInt(chance.nextBoolean() ? 100 : 10);
      case "window0": return chance.nextInt(17);
      case "window1": return chance.nextInt(chance.nextInt(3) == 0 ? 10 : 5);
      case "others0": return chance.nextInt();
      case "sheet0": case "lose0": case "lay0": case "get0": case "copy0": case "copy2": case "write1": case "read0": return chance.nextInt(4);
      case "sheet1": case "lay1": case "get1": return chance.nextInt(3);
      case "sheet2": return chance.nextInt(chance.nextInt(4) == 0 ? 62 : 12);
      case "lay2": case "get2": return chance.nextInt(10);
      case "lay3": return chance.nextInt(3) == 0 ? chance.nextInt() : chance.nextInt(12);
      case "copy1": case "copy3": case "copy4": return chance.nextInt(7);
      case "count0": return chance.nextInt(9);
      default: return chance.nextInt(chance.nextInt(3) == 0 ? 8 : 4);
    }
  }

  /** Makes a call on both, and tells the run if they differ. */
  record Caller(ToastGaol gaol, Model model, List<String> told, int run) {
    long call(Method method, int... a) throws Exception {
      // the document promises nothing about an object behind its 512th call
      if (told.size() >= CALLS) return 0;
      Object[] boxed = Arrays.stream(a).boxed().toArray();
      told.add(method.getName() + Arrays.toString(a).replace('[', '(').replace(']', ')'));
      long got;
      try {
        got = ((Number) method.invoke(gaol, boxed)).longValue();
      } catch (InvocationTargetException e) {
        wrong++;
        System.out.println("run " + run + ": " + told + " threw " + e.getCause());
        return 0;
      }
      Method due = Model.class.getDeclaredMethod(method.getName(), method.getParameterTypes());
      long want = ((Number) due.invoke(model, boxed)).longValue();
      if (got != want) {
        wrong++;
        System.out.println("run " + run + ": " + told + " answered " + got + ", due is " + want);
      }
      return got;
    }
  }

  /** A slice on its way through the hours. */
  static final class Toast {
    final char kind; final int slot; int heat, came, state = 0; final List<Integer> gone = new ArrayList<>();
    Toast(String s) { kind = s.charAt(0); came = heat = Integer.parseInt(s.substring(1, 3)); slot = s.charAt(3) - '0'; }
    boolean in() { return state < 2; }
  }

  /** How one was behind an hour, and whether it could have been buttered in it. */
  record Was(int heat, int state, int slot, boolean butterable) { }

  static final class Model {
    static final int NONE = -1, BAD = -2, NOT = -3, FULL = -4;
    static final Pattern RACK = Pattern.compile("[0-9]{0,10}");
    static final Pattern BREAD = Pattern.compile("([wcbt][0-9]{3}(;[wcbt][0-9]{3}){0,7})?");
    final StringBuilder[] text = {new StringBuilder(), new StringBuilder()};
    int cold = 10, summer = 0, soft = 40;
    final List<int[]> butters = new ArrayList<>(), seens = new ArrayList<>();
    final List<Integer> fires = new ArrayList<>();
    final Object[] sheets = new Object[4];
    int finding = 0;

    // -- texts
    static boolean in(int v, int from, int to) { return v >= from && v <= to; }
    int type(int t, int b) {
      if (!in(t, 0, 1) || !in(b, 0, 255)) return BAD;
      if (text[t].length() == (t == 0 ? 10 : 39)) return FULL;
      return text[t].append((char) b).length();
    }
    int wipe(int t) { if (!in(t, 0, 1)) return BAD; int n = text[t].length(); text[t].setLength(0); return n; }
    int undo(int t) {
      if (!in(t, 0, 1)) return BAD;
      if (text[t].length() == 0) return NOT;
      text[t].setLength(text[t].length() - 1);
      return text[t].length();
    }
    int fault(int t) {
      if (!in(t, 0, 1)) return BAD;
      Pattern p = t == 0 ? RACK : BREAD;
      for (int n = 1; n <= text[t].length(); n++) {
        Matcher m = p.matcher(text[t].substring(0, n));
        if (!m.matches() && !m.hitEnd()) return n - 1;
      }
      return p.matcher(text[t]).matches() ? NONE : text[t].length();
    }
    String rack() { return fault(0) == NONE ? text[0].toString() : ""; }
    List<String> bread() { return fault(1) == NONE && text[1].length() > 0 ? List.of(text[1].toString().split(";")) : List.of(); }
    boolean hour(int h) { return in(h, 0, 29); }
    boolean there(int s) { return in(s, 0, bread().size() - 1); }
    int draws(int s) { return in(s, 0, rack().length() - 1) ? rack().charAt(s) - '0' : BAD; }
    int slice(int s, int what) {
      if (!there(s) || !in(what, 0, 2)) return BAD;
      String b = bread().get(s);
      return what == 0 ? "wcbt".indexOf(b.charAt(0)) : what == 1 ? Integer.parseInt(b.substring(1, 3)) : b.charAt(3) - '0';
    }
    int set(int what, int v) {
      int was;
      if (what == 0 && in(v, 0, 30)) { was = cold; cold = v; return was; }
      if (what == 1 && in(v, 0, 9)) { was = summer; summer = v; return was; }
      if (what == 2 && in(v, 0, 99)) { was = soft; soft = v; return was; }
      return BAD;
    }
    int butter(int h, int s) {
      if (!hour(h) || !in(s, 0, 7)) return BAD;
      if (butters.size() == 8) return FULL;
      butters.add(new int[] {h, s});
      return butters.size();
    }
    int fire(int h) {
      if (!hour(h)) return BAD;
      if (fires.size() == 4) return FULL;
      fires.add(h);
      return fires.size();
    }
    int back(int what) {
      if (!in(what, 0, 1)) return BAD;
      List<?> of = what == 0 ? butters : fires;
      if (of.isEmpty()) return NOT;
      of.remove(of.size() - 1);
      return of.size();
    }
    int read(int s) {
      if (!in(s, 0, 3)) return BAD;
      if (sheets[s] == null) return find(1);
      int n = 0;
      while (2 * n + 1 < java.lang.reflect.Array.getLength(sheets[s])
          && butter(java.lang.reflect.Array.getInt(sheets[s], 2 * n), java.lang.reflect.Array.getInt(sheets[s], 2 * n + 1)) > 0) n++;
      return n;
    }

    // -- hours: days[h][slice]
    Was[][] days(List<String> slices, int summer, int open) {
      String rack = rack();
      List<Toast> all = new ArrayList<>();
      for (String s : slices) all.add(new Toast(s));
      Was[][] days = new Was[30][all.size()];
      gone = new ArrayList<>();
      for (Toast t : all) gone.add(t.gone);
      for (int h = 0; h < 30; h++) {
        for (Toast t : all) {
          if (t.kind == 'c' && t.state == 2 && t.gone.get(t.gone.size() - 1) + 3 == h && t.came / 2 > cold) {
            t.state = 0;
            t.heat = t.came = t.came / 2;
          }
        }
        for (Toast t : all) {
          if (t.state == 0 && t.slot < rack.length() && all.stream().noneMatch(o -> o.state == 1 && o.slot == t.slot)) t.state = 1;
        }
        for (int f : fires) for (Toast t : all) if (f == h && t.state == 1) t.heat = Math.min(99, t.heat + 20);
        boolean[] butterable = new boolean[all.size()];
        for (int i = 0; i < all.size(); i++) butterable[i] = all.get(i).in() && !(all.get(i).heat > soft);
        for (int[] b : butters) if (b[0] == h && b[1] < all.size() && all.get(b[1]).in() && all.get(b[1]).heat > soft) all.get(b[1]).state = 3;
        int[] then = new int[all.size()];
        for (int i = 0; i < all.size(); i++) then[i] = coolOne(all, i, rack, summer, (open >> h & 1) == 1 ? 3 : 0);
        for (int i = 0; i < all.size(); i++) {
          Toast t = all.get(i);
          t.heat = then[i];
          if (t.in() && t.heat <= cold) { t.state = 2; t.gone.add(h); }
          days[h][i] = new Was(t.heat, t.state, t.slot, butterable[i]);
        }
      }
      return days;
    }
    List<List<Integer>> gone;
    static int coolOne(List<Toast> all, int i, String rack, int summer, int more) {
      Toast t = all.get(i);
      if (t.state > 1) return t.heat;
      if (t.state == 0) return Math.max(0, t.heat - 1);
      int by = rack.charAt(t.slot) - '0' + more + 1 - summer;
      if (t.kind != 't') by -= (int) all.stream().filter(o -> o.state == 1 && Math.abs(o.slot - t.slot) == 1 && o.heat > t.heat).count();
      if (by < 0) by = 0;
      if (t.kind == 'w') by++;
      if (t.kind == 'b') by = by / 2;
      return Math.max(0, t.heat - by);
    }
    Was[][] days() { return days(bread(), summer, 0); }
    int heat(int h, int s) { return hour(h) && there(s) ? days()[h][s].heat : BAD; }
    int state(int h, int s) { return hour(h) && there(s) ? days()[h][s].state : BAD; }
    int held(int h) {
      if (!hour(h)) return BAD;
      int bits = 0;
      for (Was w : days()[h]) if (w.state == 1) bits += 1 << w.slot;
      return bits;
    }
    int freed(int s, int what) {
      if (!there(s) || !in(what, 0, 1)) return BAD;
      days();
      return what == 1 ? gone.get(s).size() : gone.get(s).isEmpty() ? NONE : gone.get(s).get(0);
    }
    int spoilt() {
      int bits = 0;
      for (Was[] day : days()) for (int s = 0; s < day.length; s++) if (day[s].state == 3) bits |= 1 << s;
      return bits;
    }
    static long inOn(Was[] day) { return Arrays.stream(day).filter(w -> w.state < 2).count(); }
    int quiet() {
      Was[][] days = days();
      for (int h = 0; h < 30; h++) if (inOn(days[h]) == 0) return h;
      return NONE;
    }
    int crowd(int what) {
      if (!in(what, 0, 1)) return BAD;
      Was[][] days = days();
      for (int h = 0; h < 30; h++) for (int s = 0; s < days[h].length; s++) if (days[h][s].state == 0) return what == 0 ? h : s;
      return NONE;
    }

    // -- plans
    List<String> withSlot(List<String> from, int s, int slot) {
      List<String> to = new ArrayList<>(from);
      to.set(s, from.get(s).substring(0, 3) + slot);
      return to;
    }
    List<String> withHeat(List<String> from, int s, int heat) {
      List<String> to = new ArrayList<>(from);
      to.set(s, from.get(s).charAt(0) + String.format("%02d", heat) + from.get(s).charAt(3));
      return to;
    }
    int move(int s, int what) {
      if (!there(s) || !in(what, 0, 1)) return BAD;
      int[] best = null;
      for (int slot = 0; slot < rack().length(); slot++) {
        days(withSlot(bread(), s, slot), summer, 0);
        if (!gone.get(s).isEmpty() && (best == null || gone.get(s).get(0) < best[1])) best = new int[] {slot, gone.get(s).get(0)};
      }
      return best == null ? NONE : best[what];
    }
    long stay(List<String> slices) { return Arrays.stream(days(slices, summer, 0)).mapToLong(Model::inOn).sum(); }
    int swap(int what) {
      if (!in(what, 0, 2)) return BAD;
      List<String> b = bread();
      List<long[]> all = new ArrayList<>();
      for (int x = 0; x < b.size(); x++) for (int y = x + 1; y < b.size(); y++) {
        all.add(new long[] {x, y, stay(withSlot(withSlot(b, x, b.get(y).charAt(3) - '0'), y, b.get(x).charAt(3) - '0'))});
      }
      long[] best = all.stream().min((p, q) -> p[2] != q[2] ? Long.compare(p[2], q[2]) : p[0] != q[0] ? Long.compare(p[0], q[0]) : Long.compare(p[1], q[1])).orElse(null);
      return best == null || best[2] >= stay(b) ? NONE : (int) best[what];
    }
    int line(int s) {
      if (!there(s)) return BAD;
      Was[][] days = days();
      for (int h = 0; h < 30; h++) if (days[h][s].butterable) return h;
      return NONE;
    }
    int bear() {
      int most = NONE;
      for (int y = 0; y <= 9; y++) if (inOn(days(bread(), y, 0)[29]) == 0) most = y;
      return most;
    }

    // -- seen, windows, others
    int seen(int h, int s, int state) {
      if (!hour(h) || !in(s, 0, 7) || !in(state, 0, 3)) return BAD;
      if (seens.size() == 8) return FULL;
      seens.add(new int[] {h, s, state});
      return seens.size();
    }
    int forget() { int n = seens.size(); seens.clear(); return n; }
    boolean fits(Was[][] days) { return seens.stream().allMatch(x -> x[1] < days[0].length && days[x[0]][x[1]].state == x[2]); }
    int heats(int s, int i) {
      if (!there(s) || !in(i, -1, 99)) return BAD;
      List<Integer> found = new ArrayList<>();
      if (seens.isEmpty()) for (int v = 0; v < 100; v++) found.add(v);
      else for (int v = 0; v < 100; v++) if (fits(days(withHeat(bread(), s, v), summer, 0))) found.add(v);
      return i == -1 ? found.size() : i < found.size() ? found.get(i) : NONE;
    }
    int slots(int s) {
      if (!there(s)) return BAD;
      int bits = 0;
      for (int v = 0; v < 10; v++) if (fits(days(withSlot(bread(), s, v), summer, 0))) bits |= 1 << v;
      return bits;
    }
    int ask(int h) {
      if (!hour(h)) return BAD;
      List<Was[]> ways = new ArrayList<>();
      for (int y = 0; y < 10; y++) { Was[][] d = days(bread(), y, 0); if (fits(d)) ways.add(d[h]); }
      int best = NONE;
      long least = 99;
      for (int s = 0; s < bread().size(); s++) {
        long most = 0;
        for (int state = 0; state < 4; state++) { final int i = s, j = state; most = Math.max(most, ways.stream().filter(w -> w[i].state == j).count()); }
        if (most < least) { least = most; best = s; }
      }
      return best;
    }
    long window(int c, int last, int s, int h, int what) {
      if (!in(c, 0, 16) || !in(last, 0, 9) || !there(s) || !hour(h) || !in(what, 0, 1)) return Long.MIN_VALUE + 2;
      BigInteger above = BigInteger.ZERO, below = BigInteger.valueOf(16).pow(last + 1);
      for (int open = 0; open < 1 << last + 1; open++) {
        BigInteger way = BigInteger.valueOf(c).pow(Integer.bitCount(open)).multiply(BigInteger.valueOf(16 - c).pow(last + 1 - Integer.bitCount(open)));
        if (way.signum() == 0) continue;
        days(bread(), summer, open);
        if (!gone.get(s).isEmpty() && gone.get(s).get(0) <= h) above = above.add(way);
      }
      BigInteger g = above.gcd(below);
      return (what == 0 ? above : below).divide(g).longValueExact();
    }
    int others(int seed, int what) {
      if (!in(what, 0, 1)) return BAD;
      List<String> b = bread();
      for (int s = 0; s < b.size(); s++) {
        seed = (int) (1103515245L * seed + 12345L);
        b = withHeat(b, s, (seed >> 16 & 0xffff) % 100);
      }
      return (int) Arrays.stream(days(b, summer, 0)[29]).filter(w -> w.state == 2 + what).count();
    }

    // -- sheets, by what the machine itself throws
    int find(int n) { finding = n; return -10 - n; }
    static Class<?> form(int f) { return f == 0 ? byte[].class : f == 1 ? short[].class : int[].class; }
    int find(RuntimeException e) {
      return find(e instanceof NullPointerException ? 1 : e instanceof IndexOutOfBoundsException ? 2 : e instanceof ClassCastException ? 3
          : e instanceof ArrayStoreException ? 4 : e instanceof NegativeArraySizeException ? 5 : -1000);
    }
    int sheet(int s, int f, int n) {
      if (!in(s, 0, 3) || !in(f, 0, 2) || n > 60) return BAD;
      try { sheets[s] = java.lang.reflect.Array.newInstance(form(f).getComponentType(), n); return n; } catch (RuntimeException e) { return find(e); }
    }
    int lose(int s) {
      if (!in(s, 0, 3)) return BAD;
      try { int n = java.lang.reflect.Array.getLength(sheets[s]); sheets[s] = null; return n; } catch (RuntimeException e) { return find(e); }
    }
    Object as(int s, int f) { if (sheets[s] == null) throw new NullPointerException(); return form(f).cast(sheets[s]); }
    int lay(int s, int f, int i, int v) {
      if (!in(s, 0, 3) || !in(f, 0, 2)) return BAD;
      try {
        Object o = as(s, f);
        if (f == 0) ((byte[]) o)[i] = (byte) v; else if (f == 1) ((short[]) o)[i] = (short) v; else ((int[]) o)[i] = v;
        return 1;
      } catch (RuntimeException e) { return find(e); }
    }
    int get(int s, int f, int i) {
      if (!in(s, 0, 3) || !in(f, 0, 2)) return Integer.MIN_VALUE;
      try { return java.lang.reflect.Array.getInt(as(s, f), i); } catch (RuntimeException e) { find(e); return Integer.MIN_VALUE; }
    }
    int copy(int s, int i, int t, int j, int n) {
      if (!in(s, 0, 3) || !in(t, 0, 3)) return BAD;
      try { System.arraycopy(sheets[s], i, sheets[t], j, n); return 1; } catch (RuntimeException e) { return find(e); }
    }
    int write(int h, int s) {
      if (!hour(h) || !in(s, 0, 3)) return BAD;
      if (sheets[s] == null) return find(1);
      int n = Math.min(java.lang.reflect.Array.getLength(sheets[s]), bread().size());
      for (int k = 0; k < n; k++) java.lang.reflect.Array.setByte(sheets[s], k, (byte) heat(h, k));
      return n;
    }
    int count(int what) {
      int times = 0;
      for (int s = 0; s < bread().size(); s++) times += freed(s, 1);
      int[] all = {rack().length(), bread().size(), text[0].length(), text[1].length(), butters.size(), fires.size(), times, seens.size(), finding};
      return in(what, 0, 8) ? all[what] : BAD;
    }
    long digest() {
      List<Long> of = new ArrayList<>();
      for (int k = 0; k < 8; k++) of.add((long) count(k));
      for (int k = 0; k < 2; k++) of.add((long) fault(k));
      for (int k = 0; k < rack().length(); k++) of.add((long) draws(k));
      for (int s = 0; s < bread().size(); s++) {
        for (int k = 0; k < 3; k++) of.add((long) slice(s, k));
        for (int h : new int[] {0, 5, 29}) { of.add((long) heat(h, s)); of.add((long) state(h, s)); }
        for (int k = 0; k < 2; k++) of.add((long) freed(s, k));
        for (int k = 0; k < 2; k++) of.add((long) move(s, k));
        of.add((long) line(s));
        of.add((long) heats(s, NONE));
        of.add((long) heats(s, 0));
        of.add((long) slots(s));
        for (int k = 0; k < 2; k++) of.add(window(5, 5, s, 9, k));
      }
      of.add((long) held(5));
      of.add((long) spoilt());
      of.add((long) quiet());
      for (int k = 0; k < 2; k++) of.add((long) crowd(k));
      for (int k = 0; k < 3; k++) of.add((long) swap(k));
      of.add((long) bear());
      of.add((long) ask(5));
      for (int k = 0; k < 2; k++) of.add((long) others(7, k));
      return of.stream().reduce(17L, (h, v) -> 31 * h + v);
    }
  }
}
