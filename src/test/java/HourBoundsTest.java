/** The boundary cases that the document names for promises 13 to 19: how all is behind each hour. */
public final class HourBoundsTest extends Check {
  private static final String EIGHT = "b990;b991;b992;b993;b994;b995;b996;b997";

  public static void main(String[] args) {
    outsideOfHoursAndSlices();
    coolingOfEachKind();
    hotterBesideIt();
    endsOfTheRack();
    allAtOnce();
    noneBelowZero();
    lettingGo();
    theLastHour();
    crustsInTheLastHours();
    crustsByHalf();
    crustsAndPlaces();
    placesByNumbers();
    firesAndPlaces();
    butters();
    whatWasThere();
    heatAsItWent();
    heldBits();
    freedTimes();
    spoiltBits();
    quietHours();
    crowds();
    end();
  }

  private static String two(int v) {
    return "" + v / 10 + v % 10;
  }

  private static void outsideOfHoursAndSlices() {
    for (int n = 0; n <= 8; n++) {
      ToastGaol x = gaol("00000000", n == 0 ? "" : EIGHT.substring(0, 5 * n - 1));
      for (int slice : outside(n - 1)) {
        due(13, "heat of slice " + slice + " of " + n, x.heat(0, slice), BAD);
        due(14, "state of slice " + slice + " of " + n, x.state(0, slice), BAD);
        due(16, "freed of slice " + slice + " of " + n, x.freed(slice, 0), BAD);
        due(16, "freed of slice " + slice + " of " + n, x.freed(slice, 1), BAD);
      }
      for (int hour : outside(29)) {
        for (int slice = 0; slice <= n; slice++) {
          due(13, "heat in hour " + hour, x.heat(hour, slice), BAD);
          due(14, "state in hour " + hour, x.state(hour, slice), BAD);
        }
        due(15, "held in hour " + hour, x.held(hour), BAD);
      }
      for (int slice = 0; slice < n; slice++) {
        for (int hour : new int[] {0, 29}) {
          due(13, "heat of slice " + slice, x.heat(hour, slice), 99);
          due(14, "state of slice " + slice, x.state(hour, slice), STANDS);
        }
        for (int what : outside(1)) due(16, "freed(.., " + what + ")", x.freed(slice, what), BAD);
        due(16, "never", x.freed(slice, 0), NONE);
        due(16, "never", x.freed(slice, 1), 0);
      }
      for (int what : outside(1)) due(19, "crowd(" + what + ")", x.crowd(what), BAD);
      due(15, "held behind the first hour", x.held(0), (1 << n) - 1);
      due(15, "held behind the last hour", x.held(29), (1 << n) - 1);
    }
  }

  /** What one that stands cools by, in the document's words. */
  private static int by(char kind, int draws, int summer, int hotter) {
    int by = draws + 1 - summer - (kind == 't' ? 0 : hotter);
    if (by < 0) by = 0;
    return kind == 'w' ? by + 1 : kind == 'b' ? by / 2 : by;
  }

  private static void coolingOfEachKind() {
    String[] beside = {"", ";b990", ";b992", ";b990;b992"};
    for (char kind : "wcbt".toCharArray()) {
      for (int draws = 0; draws <= 9; draws++) {
        for (int k = 0; k < 4; k++) {
          ToastGaol x = gaol("0" + draws + "0", kind + "501" + beside[k]);
          for (int summer = 0; summer <= 9; summer++) {
            x.set(1, summer);
            int want = 50 - by(kind, draws, summer, (k + 1) / 2);
            due(13, kind + " where it draws " + draws + ", summer " + summer + ", beside it" + beside[k], x.heat(0, 0), want);
          }
        }
      }
    }
  }

  private static void hotterBesideIt() {
    int[] other = {49, 50, 51}, want = {46, 46, 47};
    for (int i = 0; i < 3; i++) {
      due(13, "50 beside " + other[i], gaol("33", "c500;c" + other[i] + "1").heat(0, 0), want[i]);
      due(13, "50 behind " + other[i], gaol("33", "c" + other[i] + "0;c501").heat(0, 1), want[i]);
      due(13, "a triangle beside " + other[i], gaol("33", "t500;c" + other[i] + "1").heat(0, 0), 46);
      due(13, "beside a triangle of " + other[i], gaol("33", "c500;t" + other[i] + "1").heat(0, 0), want[i]);
    }
    due(13, "one that leans for the slot beside it", gaol("33", "c500;c401;c991").heat(0, 0), 46);
    due(13, "one slot between them", gaol("333", "c500;c992").heat(0, 0), 46);
    due(13, "one beside it and one further on", gaol("333", "c500;c601;c992").heat(0, 0), 47);
    ToastGaol x = gaol("33", "c500;c601");
    x.butter(0, 1);
    due(13, "one that goes soft in that hour", x.heat(0, 0), 46);
    x = gaol("90", "c200;b191");
    due(13, "hotter by 1: 20 by 10, let go; 19 by nothing", x.heat(0, 1), 19);
    due(13, "one that was let go", x.heat(1, 1), 19);
    x = gaol("33", "c600;c501");
    x.fire(0);
    due(13, "fires come ahead of cooling", x.heat(0, 1), 67);
  }

  private static void endsOfTheRack() {
    ToastGaol x = gaol("3333333333", "c500;c999");
    due(13, "slot 9 is not beside slot 0", x.heat(0, 0), 46);
    x = gaol("3333333333", "c509;c990");
    due(13, "slot 0 is not beside slot 9", x.heat(0, 0), 46);
    due(13, "slot 8 is beside slot 9", gaol("3333333333", "c509;c998").heat(0, 0), 47);
    due(13, "slot 9 is beside slot 8", gaol("3333333333", "c508;c999").heat(0, 0), 47);
    due(13, "slot 1 is beside slot 0", gaol("3333333333", "c500;c991").heat(0, 0), 47);
    due(13, "slot 0 is beside slot 1", gaol("3333333333", "c501;c990").heat(0, 0), 47);
    due(13, "a slot that there is not is not beside the last", gaol("333", "c502;c993").heat(0, 0), 46);
    for (int n = 0; n <= 9; n++) {
      x = gaol("3333333333".substring(0, n), "c50" + n);
      due(14, "slot " + n + " of " + n, x.state(0, 0), LEANS);
      due(13, "slot " + n + " of " + n, x.heat(0, 0), 49);
      x.type(0, '3');
      due(14, "slot " + n + " of " + (n + 1), x.state(0, 0), STANDS);
      due(13, "slot " + n + " of " + (n + 1), x.heat(0, 0), 46);
      due(15, "slot " + n + " of " + (n + 1), x.held(0), 1 << n);
    }
  }

  private static void allAtOnce() {
    ToastGaol x = gaol("333", "c500;c511;c522");
    int[] want = {47, 48, 48};
    for (int i = 0; i < 3; i++) due(13, "upwards", x.heat(0, i), want[i]);
    x = gaol("333", "c520;c511;c502");
    for (int i = 0; i < 3; i++) due(13, "downwards", x.heat(0, i), want[2 - i]);
    x = gaol("99", "c200;c191");
    due(13, "let go in that hour, and yet beside it", x.heat(0, 1), 10);
    due(14, "both are let go in that hour", x.held(0), 0);
  }

  private static void noneBelowZero() {
    for (int heat = 0; heat <= 12; heat++) {
      ToastGaol x = gaol("9", "w" + two(heat) + "0");
      x.set(0, 0);
      due(13, heat + " by 11", x.heat(0, 0), Math.max(0, heat - 11));
      due(14, heat + " by 11", x.state(0, 0), heat > 11 ? STANDS : FREE);
      x.wipe(0);
      due(13, heat + " by 1", x.heat(0, 0), Math.max(0, heat - 1));
      due(14, heat + " by 1", x.state(0, 0), heat > 1 ? LEANS : FREE);
    }
  }

  private static void lettingGo() {
    for (int cold : new int[] {0, 1, 10, 29, 30}) {
      for (int more = -1; more <= 1; more++) {
        int heat = cold + 4 + more;
        ToastGaol x = gaol("3", "c" + two(heat) + "0;c" + two(cold + 1 + Math.max(0, more)) + "9");
        x.set(0, cold);
        due(14, "stands at " + (cold + more) + ", COLD " + cold, x.state(0, 0), more > 0 ? STANDS : FREE);
        due(14, "leans at " + (cold + Math.max(0, more)) + ", COLD " + cold, x.state(0, 1), more > 0 ? LEANS : FREE);
        due(15, "its slot", x.held(0), more > 0 ? 1 : 0);
      }
    }
    ToastGaol x = gaol("0", "b100");
    due(14, "as cold as COLD at first: let go in hour 0", x.freed(0, 0), 0);
    due(13, "at 10", x.heat(29, 0), 10);
    x = gaol("0", "b110");
    due(14, "hotter by 1, and it does not cool", x.state(29, 0), STANDS);
  }

  private static void theLastHour() {
    // all lean, and cool by 1: heat - 1 - hour
    ToastGaol x = gaol("", "t400;t410");
    due(16, "let go in hour 29", x.freed(0, 0), 29);
    due(16, "once", x.freed(0, 1), 1);
    due(14, "behind hour 28", x.state(28, 0), LEANS);
    due(14, "behind hour 29", x.state(29, 0), FREE);
    due(16, "there is no hour 30", x.freed(1, 0), NONE);
    due(16, "there is no hour 30", x.freed(1, 1), 0);
    due(13, "behind hour 29", x.heat(29, 1), 11);
    due(18, "never quiet", x.quiet(), NONE);
    due(37, "let go in all", x.count(6), 1);
    due(18, "quiet in hour 29", gaol("", "t400").quiet(), 29);
    due(18, "quiet in hour 0", gaol("", "t110").quiet(), 0);
    due(16, "let go in hour 0", gaol("", "t110").freed(0, 0), 0);
  }

  private static void crustsInTheLastHours() {
    // COLD 25, leaning: 52 is let go in hour 26, and comes again in hour 29 with 26: let go at once
    ToastGaol x = gaol("", "c520");
    x.set(0, 25);
    due(16, "the first time", x.freed(0, 0), 26);
    due(16, "again in hour 29", x.freed(0, 1), 2);
    due(14, "behind hour 28", x.state(28, 0), FREE);
    due(13, "with 26, less 1", x.heat(29, 0), 25);
    x = gaol("", "c530");
    x.set(0, 25);
    due(16, "an hour later", x.freed(0, 0), 27);
    due(16, "there is no hour 30", x.freed(0, 1), 1);
    due(14, "behind hour 29", x.state(29, 0), FREE);
    // 37 is let go in hour 26 at 10, and comes again in hour 29 with 18
    x = gaol("", "c370");
    due(16, "the first time", x.freed(0, 0), 26);
    due(13, "as it went", x.heat(28, 0), 10);
    due(14, "it leans behind hour 29", x.state(29, 0), LEANS);
    due(13, "18, less 1", x.heat(29, 0), 17);
    due(16, "how often", x.freed(0, 1), 1);
    due(18, "quiet all the same, in hour 26", x.quiet(), 26);
    due(19, "it leaned from the first", x.crowd(0), 0);
  }

  private static void crustsByHalf() {
    // leaning from heat to 10, then half of it if that is above 10
    int[] heats = {20, 21, 22, 23}, first = {9, 10, 11, 12}, times = {1, 1, 2, 2};
    for (int i = 0; i < 4; i++) {
      ToastGaol x = gaol("", "c" + heats[i] + "0");
      due(16, heats[i] + " is let go", x.freed(0, 0), first[i]);
      due(16, heats[i] + " in all", x.freed(0, 1), times[i]);
      due(14, "one hour ahead", x.state(first[i] + 2, 0), FREE);
      due(13, "as it went, of the last time", x.heat(29, 0), 10);
    }
    // half of that with which it came last, not of that with which it went, or at first: 99, 49, 24, 12
    ToastGaol x = gaol("9", "c990");
    x.set(0, 11);
    int[] come = {0, 11, 17, 21}, with = {99, 49, 24, 12}, gone = {8, 14, 18, 21};
    for (int i = 0; i < 4; i++) {
      due(13, "comes with " + with[i], x.heat(come[i], 0), with[i] - 10);
      due(14, "let go in hour " + gone[i], x.state(gone[i], 0), FREE);
      if (gone[i] > come[i]) due(14, "not before", x.state(gone[i] - 1, 0), STANDS);
      due(14, "two hours later it is free", x.state(gone[i] + 2, 0), FREE);
    }
    due(16, "four times", x.freed(0, 1), 4);
    due(14, "never again", x.state(29, 0), FREE);
    x.set(0, 0);
    due(16, "COLD 0: 99, 49, 24, 12, 6, in hours 0, 12, 19, 24, 28", x.freed(0, 1), 5);
    due(13, "by 10 behind hour 28: 6 less 10 is 0", x.heat(28, 0), 0);
    // a fire makes it hotter, but it did not come with that
    x = gaol("9", "c400");
    x.fire(0);
    due(16, "60, 50, .. 10", x.freed(0, 0), 4);
    due(13, "half of 40, less 10", x.heat(7, 0), 10);
    for (char kind : "wbt".toCharArray()) {
      x = gaol("9", kind + "990");
      int last = x.freed(0, 0);
      due(14, kind + " never comes again", x.state(last + 3, 0), FREE);
      due(16, kind + " is let go once", x.freed(0, 1), 1);
    }
  }

  private static void crustsAndPlaces() {
    // 0 is let go in hour 2; 1 stands in hours 3 and 4; in hour 5 the crust comes again, ahead of 2 by its number
    ToastGaol x = gaol("9", "c400;t300;t990");
    due(16, "the crust", x.freed(0, 0), 2);
    due(16, "30, 29, 28, 27, 17, 7", x.freed(1, 0), 4);
    due(14, "2 leans on", x.state(5, 2), LEANS);
    due(13, "2 leans on", x.heat(5, 2), 93);
    due(13, "the crust stood: 20 less 10", x.heat(5, 0), 10);
    due(14, "and is let go", x.state(5, 0), FREE);
    due(13, "2 stands in hour 6", x.heat(6, 2), 83);
    // as the last of them it has to wait
    x = gaol("9", "t240;t990;c400");
    due(16, "0: 14, 4", x.freed(0, 0), 1);
    due(14, "1 stands from hour 2 on", x.state(2, 1), STANDS);
    due(14, "the crust leans", x.state(2, 2), LEANS);
    // a soft crust never comes again
    x = gaol("9", "c990");
    x.butter(0, 0);
    for (int hour = 0; hour < 30; hour++) due(14, "soft in hour " + hour, x.state(hour, 0), SOFT);
  }

  private static void placesByNumbers() {
    ToastGaol x = gaol("0", "t990;t980;t970");
    int[] want = {STANDS, LEANS, LEANS};
    for (int i = 0; i < 3; i++) due(14, "all for slot 0", x.state(0, i), want[i]);
    x.butter(0, 0);
    due(14, "the slot is empty only behind that", x.state(0, 1), LEANS);
    due(15, "none stands", x.held(0), 0);
    due(14, "the least number in the next hour", x.state(1, 1), STANDS);
    due(14, "not the other", x.state(1, 2), LEANS);
    x = gaol("0", EIGHT.replaceAll("[1-7](;|$)", "0$1"));
    for (int i = 0; i < 8; i++) due(14, "eight for slot 0", x.state(0, i), i == 0 ? STANDS : LEANS);
    for (int i = 0; i < 8; i++) x.butter(i, i);
    for (int hour = 0; hour < 8; hour++) {
      due(14, "soft by turns", x.state(hour, hour), SOFT);
      due(15, "none stands", x.held(hour), 0);
    }
    due(18, "all are gone", x.quiet(), 7);
  }

  private static void firesAndPlaces() {
    ToastGaol x = gaol("9", "t200;t600");
    x.fire(1);
    due(16, "0: 10 behind hour 0", x.freed(0, 0), 0);
    due(13, "1 stands ahead of the fire: 59, 79, 69", x.heat(1, 1), 69);
    x = gaol("9", "t300;t600");
    x.fire(0);
    due(13, "one that stands", x.heat(0, 0), 40);
    due(13, "one that leans", x.heat(0, 1), 59);
  }

  private static void butters() {
    ToastGaol x = gaol("0", "b400;b410");
    x.butter(0, 0);
    x.butter(0, 1);
    due(14, "stands, as hot as SOFT", x.state(0, 0), STANDS);
    due(14, "leans, hotter by 1", x.state(0, 1), SOFT);
    x = gaol("0", "b410;b400");
    x.butter(0, 0);
    x.butter(0, 1);
    due(14, "stands, hotter by 1", x.state(0, 0), SOFT);
    due(14, "leans, as hot as SOFT", x.state(0, 1), LEANS);
    x = gaol("0", "b990");
    x.set(2, 99);
    for (int i = 0; i < 8; i++) x.butter(i, 0);
    due(17, "SOFT 99: never", x.spoilt(), 0);
    x = gaol("0", "b990");
    x.butter(5, 0);
    x.butter(5, 0);
    x.butter(3, 0);
    due(14, "by the first hour, not the first butter", x.state(3, 0), SOFT);
    due(14, "not before", x.state(2, 0), STANDS);
    x = gaol("9", "w990");
    x.butter(9, 0);
    due(14, "let go ahead of it", x.state(9, 0), FREE);
    x = gaol("9", "c990");
    x.set(2, 10);
    x.butter(10, 0);
    due(14, "free in hour 10: no harm", x.state(11, 0), STANDS);
    x.butter(11, 0);
    due(14, "come again in hour 11", x.state(11, 0), SOFT);
    x = gaol("0", "b300");
    x.fire(0);
    x.butter(0, 0);
    due(14, "fires come first", x.state(0, 0), SOFT);
  }

  /** What there was before a text changed is not felt, and not buttered. */
  private static void whatWasThere() {
    ToastGaol x = gaol("330", "c501;b992");
    due(13, "a hotter one beside it", x.heat(0, 0), 47);
    x.undo(0);
    due(13, "its slot is no more", x.heat(0, 0), 46);
    due(14, "it leans", x.state(0, 1), LEANS);
    x.type(0, '0');
    due(13, "its slot is there again", x.heat(0, 0), 47);
    for (int i = 0; i < 5; i++) x.undo(1);
    due(13, "it is no more", x.heat(0, 0), 46);
    x = gaol("00", "b991;b990");
    due(15, "both stand", x.held(29), 3);
    x.wipe(1);
    type(x, 1, "b990");
    x.butter(0, 1);
    due(15, "slice 1 is no more, and its slot is another's", x.held(0), 1);
    due(14, "it stands", x.state(29, 0), STANDS);
    due(17, "none goes soft", x.spoilt(), 0);
    due(22, "none goes soft", x.line(0), NONE);
    due(23, "all summers are alike", x.bear(), NONE);
  }

  private static void heatAsItWent() {
    ToastGaol x = gaol("9", "w990;b900");
    x.butter(0, 1);
    for (int hour = 0; hour < 30; hour++) {
      due(13, "soft in hour 0 at 90", x.heat(hour, 1), 90);
      due(13, "99 by 11, let go at 0", x.heat(hour, 0), Math.max(0, 88 - 11 * hour));
    }
    x.fire(1);
    x.fire(29);
    due(13, "a soft one is no hotter", x.heat(29, 1), 90);
    due(16, "the first is let go later by 20 more", x.freed(0, 0), 9);
    due(13, "one that is free is no hotter", x.heat(29, 0), 0);
  }

  private static void heldBits() {
    for (int slot = 0; slot <= 9; slot++) {
      ToastGaol x = gaol("0000000000", "b99" + slot);
      for (int hour = 0; hour < 30; hour++) due(15, "slot " + slot, x.held(hour), 1 << slot);
    }
    due(15, "no slots", gaol("", EIGHT).held(0), 0);
    due(15, "eight at once", gaol("0000000000", EIGHT).held(29), 255);
    due(15, "the last eight", gaol("0000000000", "b992;b993;b994;b995;b996;b997;b998;b999").held(0), 1020);
  }

  private static void freedTimes() {
    ToastGaol x = gaol("9999999999", "c220;w991;b992;t993");
    due(16, "a crust in hour 1, again in hour 4", x.freed(0, 0), 1);
    due(16, "twice", x.freed(0, 1), 2);
    for (int i = 1; i < 4; i++) due(16, "once", x.freed(i, 1), 1);
    due(37, "in all", x.count(6), 5);
  }

  private static void spoiltBits() {
    for (int slice = 0; slice < 8; slice++) {
      ToastGaol x = gaol("00000000", EIGHT);
      x.butter(29, slice);
      due(17, "slice " + slice, x.spoilt(), 1 << slice);
    }
    ToastGaol x = gaol("00000000", EIGHT);
    due(17, "none", x.spoilt(), 0);
    for (int slice = 0; slice < 8; slice++) x.butter(slice, slice);
    due(17, "all", x.spoilt(), 255);
    due(18, "all are gone", x.quiet(), 7);
    due(17, "none of no slices", gaol("0", "").spoilt(), 0);
  }

  private static void quietHours() {
    due(18, "no slices", gaol("0000000000", "").quiet(), 0);
    due(18, "one stands for ever", gaol("0", "b110").quiet(), NONE);
    due(18, "one leans too long", gaol("", "t410").quiet(), NONE);
    ToastGaol x = gaol("", "t110;t410");
    due(18, "one of two is gone", x.quiet(), NONE);
    x.butter(29, 1);
    x.set(2, 0);
    due(18, "the other goes soft in hour 29", x.quiet(), 29);
    // a crust that comes again is not there in between
    x = gaol("9", "c400");
    due(18, "the first such hour", x.quiet(), 2);
    due(14, "though it stands again in hour 5", x.freed(0, 1), 2);
  }

  private static void crowds() {
    for (int slice = 0; slice < 8; slice++) {
      StringBuilder slices = new StringBuilder(EIGHT);
      slices.setCharAt(5 * slice + 3, '9');
      ToastGaol x = gaol("00000000", slices.toString());
      due(19, "slice " + slice + " for slot 9", x.crowd(0), 0);
      due(19, "slice " + slice + " for slot 9", x.crowd(1), slice);
    }
    for (int what = 0; what <= 1; what++) {
      due(19, "all stand", gaol("00000000", EIGHT).crowd(what), NONE);
      due(19, "no slices", gaol("0", "").crowd(what), NONE);
      due(19, "it leaned in hour 0, but is let go", gaol("", "t110").crowd(what), NONE);
    }
    ToastGaol soft = gaol("", "b900");
    soft.butter(0, 0);
    due(19, "it leaned in hour 0, but is soft", soft.crowd(0), NONE);
    due(19, "the least of two", gaol("0", "b990;b980;b970").crowd(1), 1);
    due(19, "no slots: the very first", gaol("", "b990;b980").crowd(1), 0);
    // who leans behind a later hour leaned, or somebody for the same slot did, behind hour 0 already: a later first is not to be had
    ToastGaol x = gaol("9", "b990;c220");
    due(19, "the hour", x.crowd(0), 0);
    due(19, "the crust leans from hour 0 on", x.crowd(1), 1);
    x = gaol("4", "c300;t100");
    due(19, "1 leaned in hour 0, and is let go", x.crowd(0), NONE);
    due(16, "the crust stood when it came again", x.freed(0, 1), 2);
  }
}
