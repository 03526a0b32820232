/** The boundary cases that the document names for promises 20 to 23: moves, swaps, lines, summers. */
public final class PlanBoundsTest extends Check {
  public static void main(String[] args) {
    outsideOfSlices();
    moveToEachSlot();
    moveInTheLastHour();
    moveByNone();
    moveAmongOthers();
    swapOfFewSlices();
    swapByOneFewer();
    swapOfLikeOnes();
    swapOfTheLastTwo();
    swapChangesNothing();
    lineByHeat();
    lineInTheLastHour();
    lineAmongButters();
    lineOfOneThatIsGone();
    bearBounds();
    bearOfMany();
    bearWhateverIsSet();
    end();
  }

  private static void due2(int promise, String what, ToastGaol x, int slice, int slot, int hour) {
    due(promise, what + ": which", x.move(slice, 0), slot);
    due(promise, what + ": in which hour", x.move(slice, 1), hour);
  }

  private static void dueSwap(String what, ToastGaol x, int first, int other, int many) {
    due(21, what + ": the first", x.swap(0), first);
    due(21, what + ": the other", x.swap(1), other);
    due(21, what + ": how many", x.swap(2), many);
  }

  private static void outsideOfSlices() {
    String eight = "b990;b991;b992;b993;b994;b995;b996;b997";
    for (int n = 0; n <= 8; n++) {
      ToastGaol x = gaol("00000000", n == 0 ? "" : eight.substring(0, 5 * n - 1));
      for (int slice : outside(n - 1)) {
        due(20, "move of slice " + slice + " of " + n, x.move(slice, 0), BAD);
        due(20, "move of slice " + slice + " of " + n, x.move(slice, 1), BAD);
        due(22, "line of slice " + slice + " of " + n, x.line(slice), BAD);
      }
      for (int slice = 0; slice < n; slice++) {
        for (int what : outside(1)) due(20, "move(.., " + what + ")", x.move(slice, what), BAD);
        due2(20, "by none", x, slice, NONE, NONE);
        due(22, "always above SOFT", x.line(slice), NONE);
      }
      for (int what : outside(2)) due(21, "swap(" + what + ")", x.swap(what), BAD);
    }
  }

  private static void moveToEachSlot() {
    for (int own = 0; own <= 9; own++) {
      for (int best = 0; best <= 9; best++) {
        StringBuilder rack = new StringBuilder("0000000000");
        rack.setCharAt(best, '9');
        ToastGaol x = gaol(rack.toString(), "t40" + own);
        due2(20, "from " + own + " to " + best, x, 0, best, 2);
        due(20, "it is not moved", x.slice(0, 2), own);
      }
      due2(20, "of like ones the least, from " + own, gaol("9999999999", "t40" + own), 0, 0, 2);
      due2(20, "to the only one there is, from " + own, gaol("9", "t40" + own), 0, 0, 2);
    }
    due2(20, "soonest, not where it draws the most: both in hour 2", gaol("89", "t370"), 0, 0, 2);
    due2(20, "in hour 2 in place of hour 3", gaol("89", "t380"), 0, 1, 2);
  }

  private static void moveInTheLastHour() {
    due2(20, "in hour 0", gaol("0", "t110"), 0, 0, 0);
    due2(20, "as cold as that at first", gaol("0", "b000"), 0, 0, 0);
    due2(20, "in hour 29", gaol("0", "t400"), 0, 0, 29);
    due2(20, "there is no hour 30", gaol("0", "t410"), 0, NONE, NONE);
    due2(20, "in hour 29 by the other slot", gaol("01", "t700"), 0, 1, 29);
    due2(20, "there is no hour 30 by the other slot", gaol("01", "t710"), 0, NONE, NONE);
  }

  private static void moveByNone() {
    due2(20, "no slots", gaol("", "t110"), 0, NONE, NONE);
    due2(20, "a rack with a fault", gaol("9x", "t110"), 0, NONE, NONE);
    due2(20, "it does not cool", gaol("0000000000", "b990"), 0, NONE, NONE);
    ToastGaol x = gaol("9", "t400");
    x.butter(0, 0);
    due2(20, "not above SOFT", x, 0, 0, 2);
    x.set(2, 39);
    due2(20, "it goes soft, wherever it is", x, 0, NONE, NONE);
    x.back(0);
    x.butter(1, 0);
    x.set(2, 30);
    due2(20, "30 in hour 1 is not above SOFT", x, 0, 0, 2);
    x.type(0, '0');
    due2(20, "still", x, 0, 0, 2);
  }

  private static void moveAmongOthers() {
    // its slot is taken: there it leans, and is let go by 1 an hour
    due2(20, "as it leans", gaol("9", "b990;t200"), 1, 0, 9);
    due2(20, "as it leans", gaol("0", "b990;t200"), 1, 0, 9);
    // slot 1 draws 4, but has two hotter ones beside it, slot 3 draws 3 with one, slot 4 draws 3
    due2(20, "beside hotter ones", gaol("04033", "b990;b992;c503"), 2, 4, 9);
    due2(20, "by its number it goes ahead of others", gaol("90", "c401;b990"), 0, 0, 2);
    // in slot 0 it leans, in slot 1 it does not cool at all
    due2(20, "by its number it goes behind others", gaol("10", "b990;c401"), 1, 0, 29);
    ToastGaol x = gaol("09", "c990;c991");
    due2(20, "a crust: the first time", x, 0, 1, 8);
    x.fire(3);
    due2(20, "fires count", x, 0, 1, 10);
    x.set(1, 9);
    due2(20, "summer counts", x, 0, NONE, NONE);
  }

  private static void swapOfFewSlices() {
    dueSwap("no slices", gaol("09", ""), NONE, NONE, NONE);
    dueSwap("one slice", gaol("09", "t400"), NONE, NONE, NONE);
    dueSwap("two for one slot: the same as told", gaol("09", "t400;t400"), NONE, NONE, NONE);
    dueSwap("no slots", gaol("", "t400;t201"), NONE, NONE, NONE);
    dueSwap("none stays behind any hour", gaol("09", "t100;t101"), NONE, NONE, NONE);
  }

  private static void swapByOneFewer() {
    // a triangle of 10 and h where it draws d stays behind h / (d + 1), cut up, less 1 hours
    dueSwap("2 and 0 in place of 1 and 1: as many", gaol("01", "t130;t121"), NONE, NONE, NONE);
    dueSwap("1 and 1 in place of 3 and 0: one fewer", gaol("01", "t140;t121"), 0, 1, 2);
    dueSwap("0 and 0 in place of 1 and 0", gaol("01", "t120;t111"), 0, 1, 0);
    dueSwap("1 more: none", gaol("01", "t121;t120"), NONE, NONE, NONE);
    dueSwap("the other way round", gaol("10", "t120;t141"), 0, 1, 2);
    // b stays behind all 30 hours, wherever it is
    dueSwap("30 and 1", gaol("010", "b992;t140;t121"), 1, 2, 32);
    // with a slot that there is not: t leans there, by 1 an hour
    dueSwap("to a slot that there is not", gaol("3", "t110;t149"), 0, 1, 0);
    dueSwap("from a slot that there is not: no fewer", gaol("3", "t140;t119"), NONE, NONE, NONE);
  }

  private static void swapOfLikeOnes() {
    dueSwap("the least other", gaol("011", "t140;t121;t122"), 0, 1, 2);
    dueSwap("the least first", gaol("001", "t140;t141;t122"), 0, 2, 5);
    dueSwap("the least first ahead of the least other", gaol("0101", "t140;t142;t121;t123"), 0, 2, 5);
    dueSwap("the fewest ahead of the least row", gaol("012", "t170;t111;t112"), 0, 2, 2);
    dueSwap("the fewest ahead of the least row", gaol("021", "t170;t111;t112"), 0, 1, 2);
  }

  private static void swapOfTheLastTwo() {
    // those for slot 9 are let go in hour 0, wherever they are
    String six = "t109;t109;t109;t109;t109;t109;";
    dueSwap("6 and 7 of eight", gaol("01", six + "t140;t121"), 6, 7, 2);
    dueSwap("0 and 7 of eight", gaol("01", "t140;" + six + "t121"), 0, 7, 2);
    dueSwap("0 and 1 of eight", gaol("01", "t140;t121;" + six.substring(0, 29)), 0, 1, 2);
    dueSwap("none of eight", gaol("01", "t120;t141;" + six.substring(0, 29)), NONE, NONE, NONE);
  }

  private static void swapChangesNothing() {
    ToastGaol x = gaol("01", "t140;t121");
    dueSwap("once", x, 0, 1, 2);
    due(21, "slots are as told", x.slice(0, 2), 0);
    due(21, "slots are as told", x.slice(1, 2), 1);
    dueSwap("once more", x, 0, 1, 2);
    // a soft one neither stands nor leans
    x = gaol("0", "b990;b980");
    for (int what = 0; what <= 2; what++) due(21, "60 as told", x.swap(what), NONE);
    x = gaol("01", "t140;t121");
    x.butter(0, 0);
    x.set(2, 13);
    dueSwap("soft in hour 0: none stays", x, NONE, NONE, NONE);
  }

  private static void lineByHeat() {
    for (int soft = 12; soft <= 99; soft++) {
      ToastGaol x = gaol("", "t" + soft + "0");
      x.set(2, soft);
      due(22, "as hot as SOFT " + soft, x.line(0), 0);
      x.set(2, soft - 1);
      due(22, "hotter by 1 than SOFT " + (soft - 1), x.line(0), 1);
    }
    ToastGaol x = gaol("0", "b990");
    due(22, "hotter than 40 for all hours", x.line(0), NONE);
    x.set(2, 99);
    due(22, "SOFT 99", x.line(0), 0);
    x.set(2, 98);
    due(22, "SOFT 98", x.line(0), NONE);
    x.set(0, 0);
    x.set(2, 0);
    due(22, "SOFT 0, and 1", lineOf("b010"), NONE);
    due(22, "SOFT 0, and 0", lineOf("b000"), 0);
  }

  private static int lineOf(String slice) {
    ToastGaol x = gaol("0", slice);
    x.set(0, 0);
    x.set(2, 0);
    return x.line(0);
  }

  private static void lineInTheLastHour() {
    due(22, "40 in hour 29", gaol("", "t690").line(0), 29);
    due(22, "there is no hour 30", gaol("", "t700").line(0), NONE);
    // by 2 an hour: 99, 97, .. 41 in hour 29
    ToastGaol x = gaol("1", "t990");
    due(22, "41 in hour 29", x.line(0), NONE);
    x.set(2, 41);
    due(22, "41 in hour 29", x.line(0), 29);
  }

  private static void lineAmongButters() {
    // by 5 an hour: 50, 45, 40 in hour 2
    ToastGaol x = gaol("3", "w500");
    due(22, "hour 2", x.line(0), 2);
    x.butter(2, 0);
    due(22, "one is there already", x.line(0), 2);
    x.butter(1, 0);
    due(22, "it goes soft in hour 1", x.line(0), NONE);
    x.back(0);
    x.fire(2);
    due(22, "the fire comes first, and then it goes soft by the one of hour 2", x.line(0), NONE);
    x.back(0);
    due(22, "60 in hour 2, 40 in hour 6", x.line(0), 6);
    for (int i = 0; i < 8; i++) x.butter(29, 7);
    due(22, "no room for one more, and yet", x.line(0), 6);
    due(22, "it is not buttered", x.count(4), 8);
    // the one beside it goes soft in hour 0: from then on nothing holds it up
    x = gaol("90", "c600;c991");
    due(22, "60 by 9 an hour: 51, 42, 33", x.line(0), 3);
    x.butter(0, 1);
    due(22, "60 by 10 an hour: 50, 40", x.line(0), 2);
  }

  private static void lineOfOneThatIsGone() {
    ToastGaol x = gaol("9", "t500");
    x.set(2, 9);
    due(22, "let go at 10", x.line(0), NONE);
    x.set(2, 19);
    due(22, "20 in hour 3 is too hot; then it is let go", x.line(0), NONE);
    x.set(2, 20);
    due(22, "20 in hour 3", x.line(0), 3);
    // a crust: 50, .. 20 in hour 3, let go; again in hour 6 with 25
    x = gaol("9", "c500");
    x.set(2, 15);
    due(22, "25, let go in hour 7 at 5; in hour 7 it has 15", x.line(0), 7);
    x.set(2, 14);
    due(22, "in hour 10 it comes again with 12", x.line(0), 10);
    x.set(2, 12);
    due(22, "in hour 10 it comes again with 12", x.line(0), 10);
    x.set(2, 11);
    due(22, "never", x.line(0), NONE);
    due(22, "one that leans", gaol("0", "b990;t420").line(1), 2);
  }

  private static void bearBounds() {
    due(23, "no slices", gaol("", "").bear(), 9);
    due(23, "no slices", gaol("0000000000", "").bear(), 9);
    // a triangle where it draws d: by d and 1 less SUMMER an hour; 40 needs 1 an hour for all 30 hours
    for (int draws = 0; draws <= 9; draws++) {
      due(23, "40 where it draws " + draws, gaol("" + draws, "t400").bear(), draws);
      due(23, "41 where it draws " + draws, gaol("" + draws, "t410").bear(), draws == 0 ? NONE : draws - 1);
    }
    due(23, "none: it does not cool", gaol("0", "b110").bear(), NONE);
    due(23, "any: it is cold", gaol("0", "b100").bear(), 9);
    due(23, "any: it leans, and summer does nothing", gaol("", "t400").bear(), 9);
    due(23, "none: it leans too long", gaol("", "t410").bear(), NONE);
    // white ones cool by 1 in any summer
    due(23, "white, in any summer", gaol("0", "w400").bear(), 9);
    due(23, "white, by 2 where it draws 0 and there is no summer", gaol("0", "w410").bear(), 0);
    due(23, "white, by 2", gaol("0", "w700").bear(), 0);
    due(23, "white, by 2", gaol("0", "w710").bear(), NONE);
    // a burnt one needs 2 to cool by 1
    due(23, "burnt, 1 an hour by 2 and 8 less", gaol("9", "b400").bear(), 8);
    due(23, "burnt", gaol("1", "b400").bear(), 0);
  }

  private static void bearOfMany() {
    due(23, "the least of two", gaol("95", "t400;t401").bear(), 5);
    due(23, "one of them never", gaol("90", "t400;b991").bear(), NONE);
    ToastGaol x = gaol("90", "t400;b991");
    x.butter(29, 1);
    due(23, "soft in hour 29", x.bear(), 9);
    x = gaol("9", "t400");
    x.fire(29);
    due(23, "a fire in hour 29: let go ahead of it", x.bear(), 8);
    // a crust may have come again
    x = gaol("", "c370");
    due(23, "it leans behind hour 29, again", x.bear(), NONE);
    due(23, "it was quiet once", x.quiet(), 26);
    due(23, "it would come again in hour 30", gaol("", "c380").bear(), 9);
  }

  private static void bearWhateverIsSet() {
    ToastGaol x = gaol("5", "t400");
    for (int summer = 0; summer <= 9; summer++) {
      x.set(1, summer);
      due(23, "summer " + summer, x.bear(), 5);
      due(23, "it stays", x.set(1, summer), summer);
    }
    x.set(1, 0);
    x.set(0, 9);
    due(23, "COLD 9: 31 to go", x.bear(), 4);
    x.set(0, 30);
    due(23, "COLD 30: 10 to go", x.bear(), 5);
  }
}
