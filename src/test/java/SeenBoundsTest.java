import java.math.BigInteger;

/** The boundary cases that the document names for promises 24 to 30: what was seen, windows, other summers. */
public final class SeenBoundsTest extends Check {
  private static final String EIGHT = "b990;b991;b992;b993;b994;b995;b996;b997";

  public static void main(String[] args) {
    seenBounds();
    forgetBounds();
    outsideOfSlices();
    heatsOfNothingSeen();
    heatsByTheHour();
    heatsBySoft();
    heatsNever();
    heatsOfOneThatWasThere();
    slotsBounds();
    slotsOfRacks();
    askBounds();
    askByNumbers();
    askBySeen();
    windowOutside();
    windowChances();
    windowHours();
    windowDraws();
    windowOfOneThatIsGone();
    othersBounds();
    othersBySeed();
    end();
  }

  private static void seenBounds() {
    ToastGaol x = gaol("0", "b990");
    for (int hour : outside(29)) due(24, "seen(" + hour + ", 0, 0)", x.seen(hour, 0, 0), BAD);
    for (int slice : outside(7)) due(24, "seen(0, " + slice + ", 0)", x.seen(0, slice, 0), BAD);
    for (int state : outside(3)) due(24, "seen(0, 0, " + state + ")", x.seen(0, 0, state), BAD);
    due(24, "refusals are not kept", x.count(7), 0);
    due(24, "refusals are not kept", x.heats(0, NONE), 100);
    due(24, "the least of each", x.seen(0, 0, 0), 1);
    due(24, "the greatest of each", x.seen(29, 7, 3), 2);
    for (int i = 3; i <= 8; i++) due(24, "seen " + i, x.seen(i, i - 1, i & 3), i);
    due(24, "a ninth", x.seen(0, 0, 1), FULL);
    due(24, "a ninth that was there", x.seen(0, 0, 0), FULL);
    due(24, "BAD ahead of FULL", x.seen(30, 0, 0), BAD);
    due(24, "BAD ahead of FULL", x.seen(0, 8, 0), BAD);
    due(24, "BAD ahead of FULL", x.seen(0, 0, 4), BAD);
    due(24, "seen in all", x.count(7), 8);
    due(25, "forget", x.forget(), 8);
    due(24, "the first again", x.seen(0, 0, 1), 1);
    // the ninth must not count
    x = gaol("0", "b990");
    for (int i = 0; i < 8; i++) x.seen(0, 0, STANDS);
    x.seen(0, 0, LEANS);
    due(24, "the ninth is not kept", x.heats(0, NONE), 89);
    // one that there is not, and then is
    for (int slice = 0; slice <= 7; slice++) {
      x = gaol("00000000", "");
      due(24, "slice " + slice + " that there is not", x.seen(29, slice, STANDS), 1);
      type(x, 1, EIGHT);
      due(24, "now it comes out so", x.heats(slice, NONE), 89);
    }
  }

  private static void forgetBounds() {
    ToastGaol x = gaol("0", "b990");
    due(25, "none", x.forget(), 0);
    for (int n = 1; n <= 8; n++) {
      for (int i = 0; i < n; i++) x.seen(0, 0, LEANS);
      due(25, "it never comes out so", x.heats(0, NONE), 0);
      due(25, "forget " + n, x.forget(), n);
      due(25, "none is left", x.count(7), 0);
      due(25, "all heats", x.heats(0, NONE), 100);
      due(25, "forget once more", x.forget(), 0);
    }
  }

  private static void outsideOfSlices() {
    for (int n = 0; n <= 8; n++) {
      ToastGaol x = gaol("00000000", n == 0 ? "" : EIGHT.substring(0, 5 * n - 1));
      for (int slice : outside(n - 1)) {
        due(26, "heats of slice " + slice + " of " + n, x.heats(slice, NONE), BAD);
        due(26, "heats of slice " + slice + " of " + n, x.heats(slice, 0), BAD);
        due(27, "slots of slice " + slice + " of " + n, x.slots(slice), BAD);
        due(29, "window of slice " + slice + " of " + n, x.window(0, 0, slice, 0, 0), BAD_LONG);
        due(29, "window of slice " + slice + " of " + n, x.window(0, 0, slice, 0, 1), BAD_LONG);
      }
      for (int slice = 0; slice < n; slice++) {
        for (int i : new int[] {-2, 100, LOW, HIGH}) due(26, "heats(.., " + i + ")", x.heats(slice, i), BAD);
        due(26, "heats of slice " + slice, x.heats(slice, NONE), 100);
        due(27, "slots of slice " + slice, x.slots(slice), 1023);
        due(29, "window of slice " + slice, x.window(0, 0, slice, 29, 0), 0);
      }
      for (int hour : outside(29)) due(28, "ask(" + hour + ")", x.ask(hour), BAD);
    }
  }

  private static void heatsOfNothingSeen() {
    ToastGaol x = gaol("5", "c440");
    due(26, "nothing seen", x.heats(0, NONE), 100);
    for (int i = 0; i <= 99; i++) due(26, "the i-th", x.heats(0, i), i);
    due(26, "its own stays", x.slice(0, 1), 44);
  }

  /** All heats from least to greatest, told by how many, the first, the last, and that there is none behind. */
  private static void dueHeats(String what, ToastGaol x, int slice, int least, int greatest) {
    int many = greatest - least + 1;
    due(26, what + ": how many", x.heats(slice, NONE), many);
    due(26, what + ": the first", x.heats(slice, 0), many > 0 ? least : NONE);
    if (many > 0) due(26, what + ": the last", x.heats(slice, many - 1), greatest);
    if (many < 100) due(26, what + ": none behind", x.heats(slice, Math.max(0, many)), NONE);
    if (many < 100) due(26, what + ": none behind", x.heats(slice, 99), NONE);
  }

  private static void heatsByTheHour() {
    // it leans, and cools by 1: let go by hour h up to 11 and h
    for (int hour = 0; hour <= 29; hour++) {
      ToastGaol x = gaol("", "t500");
      x.seen(hour, 0, FREE);
      dueHeats("free behind hour " + hour, x, 0, 0, 11 + hour);
      x.forget();
      x.seen(hour, 0, LEANS);
      dueHeats("leans behind hour " + hour, x, 0, 12 + hour, 99);
      x.seen(hour + (hour < 29 ? 1 : 0), 0, FREE);
      if (hour < 29) dueHeats("one heat alone", x, 0, 12 + hour, 12 + hour);
      else dueHeats("both at once", x, 0, 0, -1);
    }
    // of another slice: where slice 0 is 99 and stands for ever, 1 never stands
    ToastGaol x = gaol("0", "b990;t990");
    x.seen(29, 1, STANDS);
    dueHeats("0 must be let go in hours 0 to 28, or 1 leans", x, 0, 0, 10);
    x.forget();
    x.seen(29, 1, LEANS);
    dueHeats("0 stands", x, 0, 11, 99);
    due(26, "its own stays", x.slice(0, 1), 99);
    due(26, "it is as it was", x.state(29, 1), LEANS);
  }

  private static void heatsBySoft() {
    ToastGaol x = gaol("0", "b000");
    x.butter(3, 0);
    x.seen(3, 0, SOFT);
    dueHeats("soft in hour 3", x, 0, 41, 99);
    x.seen(2, 0, STANDS);
    dueHeats("and it stood ahead of it", x, 0, 41, 99);
    x.seen(2, 0, SOFT);
    dueHeats("but not soft ahead of it", x, 0, 0, -1);
    x.forget();
    x.set(2, 99);
    x.seen(29, 0, SOFT);
    dueHeats("SOFT 99", x, 0, 0, -1);
    x.set(2, 98);
    dueHeats("SOFT 98", x, 0, 99, 99);
    x.set(0, 0);
    x.set(2, 0);
    dueHeats("SOFT 0", x, 0, 1, 99);
  }

  private static void heatsNever() {
    for (int state = 0; state <= 3; state++) {
      ToastGaol x = gaol("0", "b990");
      x.seen(0, 1, state);
      dueHeats("one that there is not was " + state, x, 0, 0, -1);
      for (int i = 0; i <= 99; i++) due(26, "the i-th of none", x.heats(0, i), NONE);
      due(27, "one that there is not was " + state, x.slots(0), 0);
      due(28, "one that there is not was " + state, x.ask(0), 0);
    }
  }

  private static void heatsOfOneThatWasThere() {
    ToastGaol x = gaol("00", "b990;b991");
    x.seen(29, 1, STANDS);
    due(26, "both are there", x.heats(0, NONE), 100);
    for (int i = 0; i < 5; i++) x.undo(1);
    dueHeats("one that was there", x, 0, 0, -1);
    due(27, "one that was there", x.slots(0), 0);
    type(x, 1, ";b991");
    due(26, "both are there again", x.heats(0, NONE), 100);
  }

  private static void slotsBounds() {
    for (int n = 0; n <= 10; n++) {
      ToastGaol x = gaol("0000000000".substring(0, n), "b999");
      int there = (1 << n) - 1;
      due(27, "nothing seen", x.slots(0), 1023);
      x.seen(29, 0, STANDS);
      due(27, "stands in " + n + " slots", x.slots(0), there);
      x.forget();
      // it leans too long to be let go
      x.seen(29, 0, LEANS);
      due(27, "leans in all others", x.slots(0), 1023 & ~there);
      x.seen(0, 0, STANDS);
      due(27, "never both", x.slots(0), 0);
      due(27, "its own stays", x.slice(0, 2), 9);
    }
  }

  private static void slotsOfRacks() {
    for (int slot = 0; slot <= 9; slot++) {
      StringBuilder rack = new StringBuilder("0000000000");
      rack.setCharAt(slot, '9');
      ToastGaol x = gaol(rack.toString(), "t400");
      x.seen(2, 0, FREE);
      due(27, "let go in hour 2 by slot " + slot, x.slots(0), 1 << slot);
    }
    ToastGaol x = gaol("000", "b991;b990");
    x.seen(0, 1, STANDS);
    due(27, "others are in the way", x.slots(1), 5);
    due(27, "or one is in the way of others", x.slots(0), 1022);
    x = gaol("000x", "b990");
    x.seen(0, 0, LEANS);
    due(27, "a rack with a fault", x.slots(0), 1023);
  }

  private static void askBounds() {
    for (int hour = 0; hour <= 29; hour++) {
      due(28, "no slices, hour " + hour, gaol("0", "").ask(hour), NONE);
      due(28, "one slice, hour " + hour, gaol("0", "b990").ask(hour), 0);
      due(28, "all alike, hour " + hour, gaol("00000000", EIGHT).ask(hour), 0);
    }
  }

  private static void askByNumbers() {
    // a triangle of 40 where it draws 9 is let go by hour 2 in a summer of 0 alone, by hour 5 in 0 to 5, by hour 29 in all
    for (int place = 0; place < 8; place++) {
      StringBuilder slices = new StringBuilder(EIGHT.replace("997", "990"));
      slices.replace(5 * place, 5 * place + 4, "t409");
      ToastGaol x = gaol("0000000009", slices.toString());
      due(28, "behind hour 1 all are alike", x.ask(1), 0);
      due(28, "9 of one kind, in place of 10", x.ask(2), place);
      due(28, "6 of one kind, in place of 10", x.ask(5), place);
      due(28, "behind hour 29 all are alike", x.ask(29), 0);
    }
    // 41 is let go by hour 29 in 0 to 8
    due(28, "9 of one kind behind hour 29", gaol("09", "b990;t411").ask(29), 1);
    // 30, 40 and 50 behind hour 3 are let go in 0 to 5, 0 to 2, 0
    ToastGaol x = gaol("90909", "t500;t402;t304");
    due(28, "9, 7 and 6 of one kind", x.ask(3), 2);
    due(28, "the least of like ones", gaol("909", "t300;t302").ask(3), 0);
    // three ways: soft in 4 to 9, let go in 0, stands in 1 to 3
    x = gaol("909", "t402;t600");
    x.butter(3, 1);
    due(28, "soft in 6, let go in 6: the least of like ones", x.ask(5), 0);
    // 70 in hour 4 is above 40 in 3 to 9; behind hour 5 let go in 0
    x = gaol("909", "t602;t700");
    x.butter(4, 1);
    x.butter(3, 0);
    due(28, "6, 3, 1 in place of 7, 2, 1", x.ask(4), 0);
    due(28, "whatever summer is set", askInSummer(9), 1);
    due(28, "whatever summer is set", askInSummer(5), 1);
  }

  private static int askInSummer(int summer) {
    ToastGaol x = gaol("09", "b990;t401");
    x.set(1, summer);
    int ask = x.ask(2);
    due(28, "it stays set", x.set(1, 0), summer);
    return ask;
  }

  private static void askBySeen() {
    // 40 behind hour 5 is let go in 0 to 5, 60 behind hour 8 in 0 to 4
    ToastGaol x = gaol("909", "t400;t602");
    due(28, "6 and 4, 5 and 5", x.ask(8), 1);
    x.seen(5, 0, FREE);
    due(28, "0 to 5 are left: behind hour 8 5 and 1", x.ask(8), 1);
    x.seen(8, 1, FREE);
    due(28, "0 to 4 are left: all alike", x.ask(8), 0);
    x.seen(5, 0, STANDS);
    due(28, "none is left: each is 0, so the least slice", x.ask(8), 0);
    x.forget();
    due(28, "forgotten", x.ask(8), 1);
    x.seen(29, 0, FREE);
    due(28, "seen later than it is asked for", x.ask(8), 1);
    x.seen(0, 0, STANDS);
    due(28, "seen in hour 0", x.ask(8), 1);
  }

  private static void dueChance(String what, ToastGaol x, int[] a, long above, long below) {
    due(29, what + ": above", x.window(a[0], a[1], 0, a[2], 0), above);
    due(29, what + ": below", x.window(a[0], a[1], 0, a[2], 1), below);
  }

  private static void windowOutside() {
    ToastGaol x = gaol("0", "t130");
    for (int c : outside(16)) for (int what = 0; what <= 1; what++) due(29, "c " + c, x.window(c, 0, 0, 0, what), BAD_LONG);
    for (int last : outside(9)) for (int what = 0; what <= 1; what++) due(29, "last " + last, x.window(0, last, 0, 0, what), BAD_LONG);
    for (int hour : outside(29)) for (int what = 0; what <= 1; what++) due(29, "hour " + hour, x.window(0, 0, 0, hour, what), BAD_LONG);
    for (int what : outside(1)) due(29, "what " + what, x.window(0, 0, 0, 0, what), BAD_LONG);
    due(29, "the least long and 2 more", BAD_LONG, -9223372036854775806L);
    due(29, "no finding", x.count(8), 0);
    for (int c = 0; c <= 16; c++) due(29, "c " + c, x.window(c, 9, 0, 29, 0), 1);
    for (int last = 0; last <= 9; last++) due(29, "last " + last, x.window(0, last, 0, 1, 0), 0);
    for (int hour = 0; hour <= 29; hour++) due(29, "hour " + hour, x.window(16, 0, 0, hour, 0), 1);
  }

  private static long power(int base, int n) {
    return BigInteger.valueOf(base).pow(n).longValueExact();
  }

  private static void windowChances() {
    // 13 by 1 is not cold behind hour 0, by 4 it is
    int[] above = {0, 1, 1, 3, 1, 5, 3, 7, 1, 9, 5, 11, 3, 13, 7, 15, 1};
    int[] below = {1, 16, 8, 16, 4, 16, 8, 16, 2, 16, 8, 16, 4, 16, 8, 16, 1};
    for (int c = 0; c <= 16; c++) dueChance(c + " of 16", gaol("0", "t130"), new int[] {c, 0, 0}, above[c], below[c]);
    // 70 by 30 is 40; by ten times 3 more it is 10: only if the window is open in all ten hours
    ToastGaol x = gaol("0", "t700");
    dueChance("never open", x, new int[] {0, 9, 29}, 0, 1);
    dueChance("1 of 16, ten times", x, new int[] {1, 9, 29}, 1, 1L << 40);
    dueChance("2 of 16, ten times", x, new int[] {2, 9, 29}, 1, 1L << 30);
    dueChance("12 of 16, ten times", x, new int[] {12, 9, 29}, power(3, 10), 1L << 20);
    dueChance("15 of 16, ten times", x, new int[] {15, 9, 29}, power(15, 10), 1L << 40);
    dueChance("always open", x, new int[] {16, 9, 29}, 1, 1);
    for (int last = 0; last <= 8; last++) dueChance("open up to hour " + last, x, new int[] {15, last, 29}, 0, 1);
    // 67 needs nine of ten: all ten, or one of ten shut
    x = gaol("0", "t670");
    dueChance("nine of ten", x, new int[] {15, 9, 29}, power(15, 10) + 10 * power(15, 9), 1L << 40);
    dueChance("nine of nine", x, new int[] {15, 8, 29}, power(15, 9), 1L << 36);
    // 43 needs one of ten: not all ten shut
    x = gaol("0", "t430");
    dueChance("one of ten", x, new int[] {1, 9, 29}, power(16, 10) - power(15, 10), 1L << 40);
    dueChance("one of one", x, new int[] {1, 0, 29}, 1, 16);
    dueChance("one of two", x, new int[] {8, 1, 29}, 3, 4);
  }

  private static void windowHours() {
    // by hour h, that one too: 40 by 1 is cold behind hour 29, not behind hour 28
    ToastGaol x = gaol("0", "t400");
    dueChance("by hour 29", x, new int[] {0, 9, 29}, 1, 1);
    dueChance("by hour 28", x, new int[] {0, 9, 28}, 0, 1);
    dueChance("by hour 28: once in ten", x, new int[] {8, 9, 28}, 1023, 1024);
    // only hours up to the one that is asked for can matter
    x = gaol("0", "t130");
    for (int last = 0; last <= 9; last++) dueChance("hour 0, open up to " + last, x, new int[] {5, last, 0}, 5, 16);
    for (int last = 1; last <= 9; last++) dueChance("hour 1, open up to " + last, x, new int[] {8, last, 1}, 3, 4);
    dueChance("hour 1, open in hour 0", x, new int[] {8, 0, 1}, 1, 2);
    dueChance("hour 2", x, new int[] {8, 9, 2}, 1, 1);
    // 50 by 40 needs all ten hours with 3 more
    x = gaol("0", "t500");
    dueChance("hour 9, open up to 9", x, new int[] {3, 9, 9}, 59049, 1L << 40);
    dueChance("hour 8, open up to 9", x, new int[] {3, 9, 8}, 0, 1);
    dueChance("hour 9, open up to 8", x, new int[] {16, 8, 9}, 0, 1);
    dueChance("hour 12, open up to 8", x, new int[] {16, 8, 12}, 1, 1);
    dueChance("hour 11, open up to 8", x, new int[] {16, 8, 11}, 0, 1);
  }

  private static void windowDraws() {
    int[] at = {16, 0, 0};
    dueChance("9 and 3 more: 23 by 13", gaol("9", "t230"), at, 1, 1);
    dueChance("9 and 3 more: 24 by 13", gaol("9", "t240"), at, 0, 1);
    dueChance("white: 24 by 14", gaol("9", "w240"), at, 1, 1);
    dueChance("white: 25 by 14", gaol("9", "w250"), at, 0, 1);
    dueChance("burnt: 16 by 6", gaol("9", "b160"), at, 1, 1);
    dueChance("burnt: 17 by 6", gaol("9", "b170"), at, 0, 1);
    dueChance("crust beside a hotter one: 22 by 12", gaol("90", "c220;b991"), at, 1, 1);
    dueChance("crust beside a hotter one: 23 by 12", gaol("90", "c230;b991"), at, 0, 1);
    dueChance("it leans: 11 by 1", gaol("", "t110"), at, 1, 1);
    dueChance("it leans: 12 by 1", gaol("", "t120"), at, 0, 1);
    // summer takes from that: 0 and 3 and 1 less 9 is 0; less 3 is 1
    ToastGaol x = gaol("0", "t110");
    x.set(1, 9);
    dueChance("summer 9", x, at, 0, 1);
    x.set(1, 4);
    dueChance("summer 4", x, at, 0, 1);
    x.set(1, 3);
    dueChance("summer 3", x, at, 1, 1);
    // in all slots: the one beside it is hotter only as long as the window is shut
    x = gaol("00", "c130;t141");
    dueChance("beside one of 14: 13, 12, 11", x, new int[] {0, 0, 2}, 0, 1);
    dueChance("beside one of 14: 13, 12, 11, 10", x, new int[] {0, 0, 3}, 1, 1);
    dueChance("beside one of 14, open: 13 by 3 is 10", x, new int[] {8, 0, 0}, 1, 2);
  }

  private static void windowOfOneThatIsGone() {
    ToastGaol x = gaol("0", "b900");
    x.butter(0, 0);
    dueChance("soft is not let go", x, new int[] {8, 9, 29}, 0, 1);
    // 44 is above SOFT in hour 1 by 1, not by 4
    x = gaol("0", "t440");
    x.butter(1, 0);
    dueChance("soft if it was shut in hour 0", x, new int[] {4, 0, 29}, 0, 1);
    dueChance("soft if it was shut in hour 0; else 44 needs 34: open twice", x, new int[] {4, 1, 29}, 1, 16);
    // a crust that has come again was let go
    x = gaol("9", "c990");
    due(14, "it is back", x.state(11, 0), STANDS);
    dueChance("it was let go", x, new int[] {0, 0, 11}, 1, 1);
    // butters and fires count
    x = gaol("0", "t110");
    dueChance("without a fire", x, new int[] {0, 0, 0}, 1, 1);
    x.fire(0);
    dueChance("with a fire", x, new int[] {16, 9, 0}, 0, 1);
  }

  private static void othersBounds() {
    ToastGaol x = new ToastGaol();
    for (int seed : new int[] {0, LOW, HIGH}) {
      for (int what : outside(1)) due(30, "others(.., " + what + ")", x.others(seed, what), BAD);
      due(30, "no slices", x.others(seed, 0), 0);
      due(30, "no slices", x.others(seed, 1), 0);
    }
    x = gaol("9999999999", EIGHT.replace('b', 't'));
    due(30, "all are let go", x.others(1, 0), 8);
    due(30, "none goes soft", x.others(1, 1), 0);
    for (int i = 0; i < 8; i++) x.butter(0, i);
    x.set(2, 0);
    x.set(0, 0);
    int soft = 0;
    for (int heat : lots(1, 8)) soft += heat > 0 ? 1 : 0;
    due(30, "all that are hotter than 0 go soft", x.others(1, 1), soft);
    due(30, "the rest are let go", x.others(1, 0), 8 - soft);
    x = gaol("0", "b990");
    due(30, "one that may stand for ever", x.others(7, 0), lots(7, 1)[0] <= 10 ? 1 : 0);
  }

  /** LOTS of 100 by numbers without bounds, cut to 32 bits. */
  private static int[] lots(int seed, int n) {
    int[] lots = new int[n];
    BigInteger m = BigInteger.ONE.shiftLeft(32), now = BigInteger.valueOf(seed);
    for (int i = 0; i < n; i++) {
      now = now.multiply(BigInteger.valueOf(1103515245)).add(BigInteger.valueOf(12345)).mod(m);
      lots[i] = now.shiftRight(16).mod(BigInteger.valueOf(100)).intValueExact();
    }
    return lots;
  }

  private static void othersBySeed() {
    int upper = 0;
    for (int seed : new int[] {0, 1, -1, 7, 8, LOW, LOW + 1, HIGH, HIGH - 1, 65535, 65536, -65536, 1103515245, 12345, -12345}) {
      int[] heats = lots(seed, 8);
      StringBuilder slices = new StringBuilder();
      for (int i = 0; i < 8; i++) slices.append(i == 0 ? "" : ";").append("wcbt".charAt(i & 3)).append(heats[i] / 10).append(heats[i] % 10).append(i);
      ToastGaol x = gaol("01010101", "w000;c001;b002;t003;w004;c005;b006;t007"), as = gaol("01010101", slices.toString());
      for (int i = 0; i < 8; i++) {
        x.butter(i, i);
        as.butter(i, i);
      }
      int free = 0;
      for (int i = 0; i < 8; i++) free += as.state(29, i) == FREE ? 1 : 0;
      due(30, "free by seed " + seed, x.others(seed, 0), free);
      due(30, "soft by seed " + seed, x.others(seed, 1), Integer.bitCount(as.spoilt()));
      for (int i = 0; i < 8; i++) due(30, "heats stay", x.slice(i, 1), 0);
      for (int i = 0; i < 8; i++) due(30, "all are as told", x.state(29, i), FREE);
      upper |= 1103515245 * seed + 12345;
    }
    due(30, "some of the seeds have their highest bit", upper >>> 31, 1);
  }
}
