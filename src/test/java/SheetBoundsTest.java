import java.math.BigInteger;
import java.util.ArrayList;
import java.util.List;

/** The boundary cases that the document names for promises 31 to 38: sheets, counts, the digest. */
public final class SheetBoundsTest extends Check {
  private static final int[] LEAST = {Byte.MIN_VALUE, Short.MIN_VALUE, LOW}, GREATEST = {Byte.MAX_VALUE, Short.MAX_VALUE, HIGH};

  public static void main(String[] args) {
    sheetSizes();
    sheetRefusals();
    sheetAnew();
    loseBounds();
    layBounds();
    layBits();
    layOrder();
    getBounds();
    copyRefusals();
    copyRuns();
    copyOntoItself();
    copyForms();
    writeBounds();
    writeForms();
    countBounds();
    countOfFindings();
    digestOfANewOne();
    digestOfTheHour();
    digestWraps();
    end();
  }

  /** One sheet of each form, with n items; sheet 3 is lost. */
  private static ToastGaol three(int n) {
    ToastGaol x = new ToastGaol();
    for (int form = 0; form <= 2; form++) x.sheet(form, form, n);
    return x;
  }

  private static void dueFinding(int promise, String what, ToastGaol x, long got, long want) {
    due(promise, what, got, want);
    due(promise, what + ": count(8)", x.count(8), -10 - want);
  }

  private static void sheetSizes() {
    for (int s = 0; s <= 3; s++) {
      for (int form = 0; form <= 2; form++) {
        for (int n : new int[] {0, 1, 2, 59, 60}) {
          ToastGaol x = new ToastGaol();
          due(31, "sheet(" + s + ", " + form + ", " + n + ")", x.sheet(s, form, n), n);
          for (int i = 0; i < n; i++) due(31, "0 at first", x.get(s, form, i), 0);
          due(31, "no finding", x.count(8), 0);
          dueFinding(31, "no item " + n, x, x.lay(s, form, n, 1), INDEX);
          due(31, "items", x.lose(s), n);
        }
      }
    }
  }

  private static void sheetRefusals() {
    ToastGaol x = new ToastGaol();
    for (int s : outside(3)) for (int n : new int[] {0, 60, 61, -1}) due(31, "sheet(" + s + ", 0, " + n + ")", x.sheet(s, 0, n), BAD);
    for (int form : outside(2)) for (int n : new int[] {0, 60, 61, -1}) due(31, "sheet(0, " + form + ", " + n + ")", x.sheet(0, form, n), BAD);
    for (int form = 0; form <= 2; form++) for (int n : new int[] {61, HIGH}) due(31, "sheet(0, " + form + ", " + n + ")", x.sheet(0, form, n), BAD);
    due(31, "BAD is no finding", x.count(8), 0);
    dueFinding(31, "still lost", x, x.lose(0), NULL);
    for (int form = 0; form <= 2; form++) for (int n : new int[] {-1, LOW}) dueFinding(31, "below 0", x, x.sheet(0, form, n), SIZE);
    dueFinding(31, "still lost", x, x.lose(0), NULL);
    x.sheet(0, 1, 3);
    x.lay(0, 1, 2, 7);
    x.sheet(0, 0, -1);
    x.sheet(0, 0, 61);
    x.sheet(0, 3, 5);
    due(31, "refusals leave what was there", x.get(0, 1, 2), 7);
    due(31, "refusals leave what was there", x.lose(0), 3);
  }

  private static void sheetAnew() {
    for (int form = 0; form <= 2; form++) {
      for (int then = 0; then <= 2; then++) {
        ToastGaol x = new ToastGaol();
        x.sheet(0, form, 60);
        for (int i = 0; i < 60; i++) x.lay(0, form, i, -1);
        due(31, "a new row of form " + then, x.sheet(0, then, 60), 60);
        for (int i = 0; i < 60; i++) due(31, "0 at first", x.get(0, then, i), 0);
        x.sheet(0, then, 1);
        x.lay(0, then, 0, 5);
        due(31, "a longer one", x.sheet(0, then, 2), 2);
        due(31, "0 at first", x.get(0, then, 0), 0);
        due(31, "0 at first", x.get(0, then, 1), 0);
      }
    }
    ToastGaol x = three(2);
    x.lay(1, 1, 0, 9);
    x.sheet(0, 1, 2);
    due(31, "other sheets stay", x.get(1, 1, 0), 9);
    due(31, "and are not the same", x.get(0, 1, 0), 0);
  }

  private static void loseBounds() {
    ToastGaol x = three(60);
    for (int s : outside(3)) due(32, "lose(" + s + ")", x.lose(s), BAD);
    due(32, "BAD is no finding", x.count(8), 0);
    dueFinding(32, "lose of a lost one", x, x.lose(3), NULL);
    for (int s = 0; s <= 2; s++) {
      due(32, "lose", x.lose(s), 60);
      dueFinding(32, "lose once more", x, x.lose(s), NULL);
      dueFinding(32, "lay on a lost one", x, x.lay(s, s, 0, 0), NULL);
      dueFinding(32, "read of a lost one", x, x.read(s), NULL);
      if (s < 2) due(32, "others stay", x.get(s + 1, s + 1, 59), 0);
    }
    x.sheet(0, 2, 0);
    due(32, "lose of no items", x.lose(0), 0);
    x.sheet(0, 2, 4);
    due(32, "lost, and made again", x.lose(0), 4);
  }

  private static void layBounds() {
    ToastGaol x = three(60);
    for (int s : outside(3)) due(33, "lay(" + s + ", ..)", x.lay(s, 0, 0, 1), BAD);
    for (int form : outside(2)) for (int s = 0; s <= 3; s++) due(33, "lay(.., " + form + ", ..)", x.lay(s, form, 0, 1), BAD);
    due(33, "BAD is no finding", x.count(8), 0);
    for (int s = 0; s <= 2; s++) {
      for (int i : outside(59)) dueFinding(33, "lay at " + i, x, x.lay(s, s, i, 1), INDEX);
      for (int i : new int[] {0, 59}) due(33, "0 behind refusals", x.get(s, s, i), 0);
      for (int i : new int[] {0, 1, 58, 59}) due(33, "lay at " + i, x.lay(s, s, i, i + 1), 1);
      for (int i : new int[] {0, 1, 58, 59}) due(33, "item " + i, x.get(s, s, i), i + 1);
      due(33, "none beside it", x.get(s, s, 2), 0);
      due(33, "none beside it", x.get(s, s, 57), 0);
    }
    ToastGaol y = three(0);
    for (int s = 0; s <= 2; s++) dueFinding(33, "no items", y, y.lay(s, s, 0, 1), INDEX);
    y = three(1);
    for (int s = 0; s <= 2; s++) {
      dueFinding(33, "one item", y, y.lay(s, s, 1, 1), INDEX);
      due(33, "one item", y.lay(s, s, 0, 1), 1);
    }
  }

  private static void layBits() {
    ToastGaol x = three(1);
    long[] all = {0, 1, -1, 127, 128, 129, 255, 256, 257, -127, -128, -129, -255, -256, 32767, 32768, 32769, 65535, 65536, 65537,
        -32768, -32769, -65536, HIGH, LOW, HIGH - 1, LOW + 1, 0x12345678, 0x89abcdef};
    for (long v : all) {
      for (int form = 0; form <= 2; form++) {
        long size = 1L << (8 << form), cut = Math.floorMod(v, size);
        long want = cut >= size / 2 ? cut - size : cut;
        due(33, "lay of " + v + " in form " + form, x.lay(form, form, 0, (int) v), 1);
        due(34, "get of " + v + " in form " + form, x.get(form, form, 0), want);
      }
    }
    for (int form = 0; form <= 2; form++) {
      x.lay(form, form, 0, GREATEST[form]);
      due(34, "the greatest of form " + form, x.get(form, form, 0), GREATEST[form]);
      x.lay(form, form, 0, GREATEST[form] + 1);
      due(34, "one more wraps in form " + form, x.get(form, form, 0), LEAST[form]);
    }
    due(34, "no finding, though it is the least int", x.count(8), 0);
  }

  private static void layOrder() {
    ToastGaol x = three(2);
    due(33, "BAD ahead of NULL", x.lay(3, 3, 9, 1), BAD);
    for (int form = 0; form <= 2; form++) dueFinding(33, "NULL ahead of INDEX", x, x.lay(3, form, 9, 1), NULL);
    for (int s = 0; s <= 2; s++) {
      for (int form = 0; form <= 2; form++) {
        if (form == s) continue;
        dueFinding(33, "form " + form + " in place of " + s, x, x.lay(s, form, 0, 1), CAST);
        dueFinding(33, "CAST ahead of INDEX", x, x.lay(s, form, 2, 1), CAST);
        dueFinding(33, "CAST ahead of INDEX", x, x.lay(s, form, -1, 1), CAST);
      }
      due(33, "0 behind refusals", x.get(s, s, 0), 0);
    }
    ToastGaol y = three(0);
    dueFinding(33, "CAST of no items", y, y.lay(0, 1, 0, 1), CAST);
  }

  private static void dueGet(String what, ToastGaol x, int[] a, int finding) {
    due(34, what, x.get(a[0], a[1], a[2]), LOW);
    due(34, what + ": count(8)", x.count(8), finding);
  }

  private static void getBounds() {
    ToastGaol x = three(60);
    for (int s : outside(3)) dueGet("get(" + s + ", ..)", x, new int[] {s, 0, 0}, 0);
    for (int form : outside(2)) for (int s = 0; s <= 3; s++) dueGet("get(.., " + form + ", ..)", x, new int[] {s, form, 99}, 0);
    for (int s = 0; s <= 2; s++) {
      for (int i : outside(59)) dueGet("get at " + i, x, new int[] {s, s, i}, 2);
      for (int form = 0; form <= 2; form++) {
        if (form == s) continue;
        dueGet("form " + form + " in place of " + s, x, new int[] {s, form, 0}, 3);
        dueGet("CAST ahead of INDEX", x, new int[] {s, form, 60}, 3);
      }
      dueGet("NULL ahead of INDEX", x, new int[] {3, s, 60}, 1);
      dueGet("BAD leaves the finding", x, new int[] {4, s, 0}, 1);
      due(34, "the first", x.get(s, s, 0), 0);
      due(34, "the last", x.get(s, s, 59), 0);
      due(34, "what is well leaves the finding", x.count(8), 1);
    }
    ToastGaol y = three(0);
    for (int s = 0; s <= 2; s++) dueGet("no items", y, new int[] {s, s, 0}, 2);
  }

  /** Sheet 0: bytes 1 .. 5; sheet 1: bytes 11 .. 13; sheet 2: shorts; sheet 3: lost. */
  private static ToastGaol rows() {
    ToastGaol x = new ToastGaol();
    x.sheet(0, 0, 5);
    x.sheet(1, 0, 3);
    x.sheet(2, 1, 5);
    for (int i = 0; i < 5; i++) x.lay(0, 0, i, i + 1);
    for (int i = 0; i < 3; i++) x.lay(1, 0, i, i + 11);
    return x;
  }

  private static void dueItems(String what, ToastGaol x, int s, int... items) {
    for (int i = 0; i < items.length; i++) due(35, what + ": item " + i, x.get(s, 0, i), items[i]);
  }

  private static void copyRefusals() {
    ToastGaol x = rows();
    for (int s : outside(3)) {
      for (int other = 0; other <= 3; other++) {
        due(35, "from " + s, x.copy(s, 0, other, 0, 0), BAD);
        due(35, "to " + s, x.copy(other, 0, s, 0, 0), BAD);
      }
    }
    due(35, "BAD is no finding", x.count(8), 0);
    dueFinding(35, "from a lost one", x, x.copy(3, 0, 0, 0, 1), NULL);
    dueFinding(35, "to a lost one", x, x.copy(0, 0, 3, 0, 1), NULL);
    dueFinding(35, "both lost, and the same", x, x.copy(3, 0, 3, 0, 0), NULL);
    dueFinding(35, "NULL ahead of INDEX", x, x.copy(3, -1, 0, 99, -1), NULL);
    dueFinding(35, "unlike forms", x, x.copy(0, 0, 2, 0, 1), STORE);
    dueFinding(35, "unlike forms, no items", x, x.copy(2, 0, 0, 0, 0), STORE);
    dueFinding(35, "STORE ahead of INDEX", x, x.copy(0, -1, 2, 99, -1), STORE);
    int[][] wrong = {{-1, 0, 0}, {0, -1, 0}, {0, 0, -1}, {-1, 0, 1}, {0, -1, 1}, {0, 0, 4}, {5, 0, 1}, {3, 0, 3}, {0, 3, 1}, {0, 1, 3}, {6, 0, 0}, {0, 4, 0},
        {HIGH, 0, 1}, {0, HIGH, 1}, {0, 0, HIGH}, {HIGH, HIGH, HIGH}, {1, 1, HIGH}, {LOW, 0, 1}, {0, LOW, 1}, {0, 0, LOW}, {LOW, LOW, LOW}, {5, 3, LOW}};
    for (int[] w : wrong) dueFinding(35, "from " + w[0] + " to " + w[1] + ", " + w[2] + " items", x, x.copy(0, w[0], 1, w[1], w[2]), INDEX);
    dueItems("as it was", x, 0, 1, 2, 3, 4, 5);
    dueItems("as it was", x, 1, 11, 12, 13);
  }

  private static void copyRuns() {
    ToastGaol x = rows();
    due(35, "none", x.copy(0, 0, 1, 0, 0), 1);
    due(35, "none, from the end to the end", x.copy(0, 5, 1, 3, 0), 1);
    dueItems("none", x, 1, 11, 12, 13);
    due(35, "all that there is room for", x.copy(0, 2, 1, 0, 3), 1);
    dueItems("three", x, 1, 3, 4, 5);
    due(35, "the last to the last", x.copy(0, 4, 1, 2, 1), 1);
    dueItems("the last", x, 1, 3, 4, 5);
    due(35, "the first to the last", x.copy(0, 0, 1, 2, 1), 1);
    dueItems("one", x, 1, 3, 4, 1);
    dueItems("from where it came", x, 0, 1, 2, 3, 4, 5);
    due(35, "no finding", x.count(8), 0);
    ToastGaol y = three(0);
    for (int s = 0; s <= 2; s++) {
      due(35, "no items onto no items", y.copy(s, 0, s, 0, 0), 1);
      dueFinding(35, "one of no items", y, y.copy(s, 0, s, 0, 1), INDEX);
    }
    ToastGaol z = new ToastGaol();
    z.sheet(0, 2, 60);
    z.sheet(1, 2, 60);
    for (int i = 0; i < 60; i++) z.lay(0, 2, i, LOW + i);
    due(35, "sixty", z.copy(0, 0, 1, 0, 60), 1);
    for (int i = 0; i < 60; i++) due(35, "item " + i, z.get(1, 2, i), LOW + i);
    dueFinding(35, "sixty-one", z, z.copy(0, 0, 1, 0, 61), INDEX);
  }

  private static void copyOntoItself() {
    ToastGaol x = rows();
    due(35, "upwards", x.copy(0, 0, 0, 1, 4), 1);
    dueItems("as they were", x, 0, 1, 1, 2, 3, 4);
    x = rows();
    due(35, "downwards", x.copy(0, 1, 0, 0, 4), 1);
    dueItems("as they were", x, 0, 2, 3, 4, 5, 5);
    x = rows();
    due(35, "where it is", x.copy(0, 0, 0, 0, 5), 1);
    dueItems("as they were", x, 0, 1, 2, 3, 4, 5);
    dueFinding(35, "too far", x, x.copy(0, 0, 0, 1, 5), INDEX);
    dueFinding(35, "from too far", x, x.copy(0, 1, 0, 0, 5), INDEX);
    dueItems("as they were", x, 0, 1, 2, 3, 4, 5);
    due(35, "none at the end", x.copy(0, 5, 0, 5, 0), 1);
  }

  private static void copyForms() {
    for (int s = 0; s <= 2; s++) {
      for (int t = 0; t <= 2; t++) {
        ToastGaol x = three(1);
        x.lay(s, s, 0, 7);
        if (s == t) due(35, "form " + s, x.copy(s, 0, t, 0, 1), 1);
        else dueFinding(35, "form " + s + " to " + t, x, x.copy(s, 0, t, 0, 1), STORE);
        due(35, "it came, or it did not", x.get(t, t, 0), s == t ? 7 : 0);
      }
      ToastGaol x = three(1);
      x.sheet(3, s, 1);
      x.lay(s, s, 0, LEAST[s]);
      due(35, "another sheet of form " + s, x.copy(s, 0, 3, 0, 1), 1);
      due(35, "the least item", x.get(3, s, 0), LEAST[s]);
    }
  }

  private static void writeBounds() {
    String eight = "b990;b981;b972;b963;b954;b945;b936;b927";
    for (int slices = 0; slices <= 8; slices++) {
      for (int n : new int[] {0, 1, 7, 8, 9, 60}) {
        ToastGaol x = gaol("00000000", slices == 0 ? "" : eight.substring(0, 5 * slices - 1));
        x.sheet(0, 0, n);
        for (int i = 0; i < n; i++) x.lay(0, 0, i, -1);
        int want = Math.min(n, slices);
        due(36, slices + " slices, " + n + " items", x.write(29, 0), want);
        for (int i = 0; i < n; i++) due(36, "item " + i, x.get(0, 0, i), i < want ? 99 - i : -1);
        due(36, "items", x.lose(0), n);
      }
    }
    ToastGaol x = gaol("0", "t990");
    for (int hour : outside(29)) for (int s = 0; s <= 3; s++) due(36, "write(" + hour + ", ..)", x.write(hour, s), BAD);
    for (int s : outside(3)) for (int hour : new int[] {0, 29, 30}) due(36, "write(.., " + s + ")", x.write(hour, s), BAD);
    due(36, "BAD is no finding", x.count(8), 0);
    for (int s = 0; s <= 3; s++) dueFinding(36, "a lost sheet", x, x.write(0, s), NULL);
    x.sheet(0, 0, 1);
    x.write(30, 0);
    x.write(0, 4);
    due(36, "refusals write nothing", x.get(0, 0, 0), 0);
    for (int hour = 0; hour < 30; hour++) {
      due(36, "hour " + hour, x.write(hour, 0), 1);
      due(36, "heat behind hour " + hour, x.get(0, 0, 0), 98 - hour);
    }
  }

  private static void writeForms() {
    for (int form = 0; form <= 2; form++) {
      ToastGaol x = gaol("90", "b991;w990");
      x.sheet(0, form, 3);
      x.lay(0, form, 2, 55);
      due(36, "form " + form, x.write(29, 0), 2);
      due(36, "the hottest in form " + form, x.get(0, form, 0), 99);
      due(36, "as it went in form " + form, x.get(0, form, 1), x.heat(29, 1));
      due(36, "no more in form " + form, x.get(0, form, 2), 55);
      due(36, "its form stays", x.get(0, (form + 1) % 3, 0), LOW);
    }
  }

  private static void countBounds() {
    ToastGaol x = gaol("0123456789", "c990;c991;c992;c993;c994;c995;c996;c997");
    for (int what : outside(8)) due(37, "count(" + what + ")", x.count(what), BAD);
    for (int i = 0; i < 9; i++) x.butter(29, 7);
    for (int i = 0; i < 5; i++) x.fire(29);
    for (int i = 0; i < 9; i++) x.seen(0, 0, 0);
    int times = 0;
    for (int slice = 0; slice < 8; slice++) times += x.freed(slice, 1);
    int[] want = {10, 8, 10, 39, 8, 4, times, 8, 0};
    for (int what = 0; what <= 8; what++) due(37, "count(" + what + ") of all that there may be", x.count(what), want[what]);
    // a crust of 99 where it draws 9, COLD 0: in hours 0, 12, 19, 24, 28
    ToastGaol y = gaol("9999999999", "c990;c991;c992;c993;c994;c995;c996;c997");
    y.set(0, 0);
    due(37, "eight crusts, five times each", y.count(6), 40);
    due(37, "none of no slices", gaol("9", "").count(6), 0);
    due(37, "none is let go", gaol("0", "b990").count(6), 0);
  }

  private static void countOfFindings() {
    ToastGaol x = three(1);
    due(37, "0 before any", x.count(8), 0);
    x.lose(3);
    due(37, "1 NULL", x.count(8), 1);
    x.lay(0, 0, 1, 0);
    due(37, "2 INDEX", x.count(8), 2);
    x.lay(0, 1, 0, 0);
    due(37, "3 CAST", x.count(8), 3);
    x.copy(0, 0, 1, 0, 1);
    due(37, "4 STORE", x.count(8), 4);
    x.sheet(0, 0, -1);
    due(37, "5 SIZE", x.count(8), 5);
    x.type(2, 0);
    x.undo(0);
    x.back(0);
    for (int i = 0; i < 5; i++) x.fire(0);
    x.sheet(0, 0, 61);
    x.get(4, 0, 0);
    x.count(9);
    due(37, "BAD, NOT, FULL are no findings", x.count(8), 5);
    x.sheet(3, 2, 2);
    x.lay(3, 2, 0, 1);
    x.digest();
    due(37, "what is well leaves it", x.count(8), 5);
    x.get(0, 2, 0);
    due(37, "the latest", x.count(8), 3);
  }

  private static long fold(List<Long> of) {
    BigInteger h = BigInteger.valueOf(17);
    for (long v : of) h = h.multiply(BigInteger.valueOf(31)).add(BigInteger.valueOf(v));
    return h.longValue();
  }

  private static void digestOfANewOne() {
    List<Long> of = new ArrayList<>();
    long[] all = {0, 0, 0, 0, 0, 0, 0, 0, -1, -1, 0, 0, 0, -1, -1, -1, -1, -1, 9, -1, 0, 0};
    for (long v : all) of.add(v);
    due(38, "of a new one", new ToastGaol().digest(), fold(of));
    // one triangle that leans: 12, let go in hour 1; no slots
    ToastGaol x = gaol("", "t120");
    long[] one = {0, 1, 0, 4, 0, 0, 1, 0, -1, -1, 3, 12, 0, 11, 0, 10, 2, 10, 2, 1, 1, -1, -1, 0, 100, 0, 1023, 1, 1,
        0, 0, 1, 0, 0, -1, -1, -1, 9, 0, 0, 0};
    of.clear();
    for (long v : one) of.add(v);
    int heat = (1103515245 * 7 + 12345 >>> 16) % 100;
    of.set(of.size() - 2, heat <= 40 ? 1L : 0L);
    due(38, "of one slice", x.digest(), fold(of));
    due(38, "of one slice, once more", x.digest(), fold(of));
  }

  /** Everything that the digest is made of, asked for call by call, by numbers without bounds. */
  private static long digestOf(ToastGaol x) {
    List<Long> of = new ArrayList<>();
    for (int what = 0; what <= 7; what++) of.add((long) x.count(what));
    for (int text = 0; text <= 1; text++) of.add((long) x.fault(text));
    for (int slot = 0; slot < x.count(0); slot++) of.add((long) x.draws(slot));
    for (int slice = 0; slice < x.count(1); slice++) {
      for (int what = 0; what <= 2; what++) of.add((long) x.slice(slice, what));
      for (int hour : new int[] {0, 5, 29}) {
        of.add((long) x.heat(hour, slice));
        of.add((long) x.state(hour, slice));
      }
      for (int what = 0; what <= 1; what++) of.add((long) x.freed(slice, what));
      for (int what = 0; what <= 1; what++) of.add((long) x.move(slice, what));
      of.add((long) x.line(slice));
      of.add((long) x.heats(slice, NONE));
      of.add((long) x.heats(slice, 0));
      of.add((long) x.slots(slice));
      for (int what = 0; what <= 1; what++) of.add(x.window(5, 5, slice, 9, what));
    }
    of.add((long) x.held(5));
    of.add((long) x.spoilt());
    of.add((long) x.quiet());
    for (int what = 0; what <= 1; what++) of.add((long) x.crowd(what));
    for (int what = 0; what <= 2; what++) of.add((long) x.swap(what));
    of.add((long) x.bear());
    of.add((long) x.ask(5));
    for (int what = 0; what <= 1; what++) of.add((long) x.others(7, what));
    return fold(of);
  }

  /** A rack with slices, and then more: 0 no more, 1 all that there may be, 2 also one that was never so. */
  private static ToastGaol filled(String rack, String slices, int more) {
    ToastGaol x = gaol(rack, slices);
    if (more == 0) return x;
    for (int i = 0; i < 8; i++) x.butter(i, 7 - i);
    for (int i = 0; i < 4; i++) x.fire(i);
    for (int i = 0; i < 7 && i < x.count(1); i++) x.seen(i, i, x.state(i, i));
    if (more == 2) x.seen(0, 7, SOFT);
    return x;
  }

  /** So that each hour and each number that the digest asks with is told from the next ones. */
  private static void digestOfTheHour() {
    // 70 by 10 or 9 an hour is let go behind hour 6; behind hour 5 by 10 alone
    ToastGaol x = gaol("90", "b991;t700");
    x.seen(6, 1, FREE);
    int[] want = {0, 1, 0};
    for (int i = 0; i < 3; i++) due(28, "ask(" + (4 + i) + ")", x.ask(4 + i), want[i]);
    due(38, "ask(5)", x.digest(), digestOf(x));
  }

  private static void digestWraps() {
    String[] racks = {"", "0", "9876543210", "01x"}, slices = {"", "t400", "c999;w988;b977;t966;c555;w444;b333;t990", "t400;"};
    for (String rack : racks) {
      for (String bread : slices) {
        for (int more = 0; more <= 2; more++) {
          ToastGaol x = filled(rack, bread, more);
          long digest = x.digest();
          due(38, "of " + rack + " and " + bread + " and more: " + more, digest, digestOf(filled(rack, bread, more)));
          x.lose(0);
          x.sheet(1, 1, 1);
          due(38, "sheets and findings are not in it", x.digest(), digest);
        }
      }
    }
  }
}
