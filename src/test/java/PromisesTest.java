/** Each promise of the document by itself: ordinary inputs, the edges it names, wrong inputs; worked out by hand. */
public final class PromisesTest extends Check {
  public static void main(String[] args) {
    texts();
    changes();
    settings();
    reads();
    cooling();
    hours();
    crusts();
    plans();
    lines();
    sightings();
    windows();
    others();
    sheets();
    copies();
    writes();
    counts();
    digests();
    end();
  }

  private static void texts() {
    ToastGaol x = new ToastGaol();
    for (int what = 0; what <= 8; what++) due(1, "count(" + what + ") of a new one", x.count(what), 0);
    for (int s = 0; s < 4; s++) due(1, "a sheet of a new one", new ToastGaol().lose(s), NULL);
    for (int t : new int[] {-1, 2, LOW, HIGH}) {
      due(2, "type of no text", x.type(t, '0'), BAD);
      due(3, "wipe of no text", x.wipe(t), BAD);
      due(4, "undo of no text", x.undo(t), BAD);
      due(5, "fault of no text", x.fault(t), BAD);
    }
    for (int b : new int[] {-1, 256, LOW, HIGH}) due(2, "type of no byte", x.type(0, b), BAD);
    due(2, "type of the least byte", x.type(0, 0), 1);
    due(2, "type of the greatest byte", x.type(0, 255), 2);
    due(3, "wipe", x.wipe(0), 2);
    due(3, "wipe of an empty one", x.wipe(0), 0);
    for (int i = 1; i <= 10; i++) due(2, "type into the rack", x.type(0, '7'), i);
    due(2, "type into a full rack", x.type(0, '7'), FULL);
    due(2, "no byte into a full rack", x.type(0, 256), BAD);
    for (int i = 1; i <= 39; i++) due(2, "type into slices", x.type(1, "w000;".charAt((i - 1) % 5)), i);
    due(2, "type into full slices", x.type(1, ';'), FULL);
    due(5, "fault of 8 slices", x.fault(1), NONE);
    due(7, "the last slice", x.slice(7, 1), 0);
    due(4, "undo", x.undo(1), 38);
    due(5, "fault of one not ended", x.fault(1), 38);
    due(7, "a slice of a text with a fault", x.slice(0, 0), BAD);
    due(37, "slices of a text with a fault", x.count(1), 0);
    due(3, "wipe", x.wipe(1), 38);
    due(4, "undo of an empty one", x.undo(1), NOT);
    due(4, "undo of the rack", x.undo(0), 9);
    due(37, "slots left", x.count(0), 9);

    due(5, "fault of an empty rack", gaol("", "").fault(0), NONE);
    due(5, "fault of no slices", gaol("", "").fault(1), NONE);
    due(5, "fault of a rack", gaol("0123456789", "").fault(0), NONE);
    for (String s : new String[] {"/", ":", " ", "w"}) {
      due(5, "fault at 0 in a rack", gaol(s, "").fault(0), 0);
      due(5, "fault behind two figures", gaol("12" + s + "x", "").fault(0), 2);
    }
    String[] broken = {"x", "W", "0", ";", "wx", "w9x", "w99x", "w990x", "w990;x", "w990;;", "w990;c/", "c1234", "b12;"};
    int[] where = {0, 0, 0, 0, 1, 2, 3, 4, 5, 5, 6, 4, 3};
    for (int i = 0; i < broken.length; i++) due(5, "fault of " + broken[i], gaol("", broken[i]).fault(1), where[i]);
    String[] short_ = {"w", "w9", "w99", "w990;", "w990;t", "w990;t00"};
    for (String s : short_) due(5, "fault of " + s, gaol("", s).fault(1), s.length());
    for (String s : new String[] {"w990", "c000;b555;t129"}) due(5, "fault of " + s, gaol("", s).fault(1), NONE);

    x = gaol("0918", "w012;c340;b991;t009");
    for (int i = 0; i < 4; i++) due(6, "draws(" + i + ")", x.draws(i), "0918".charAt(i) - '0');
    for (int i : new int[] {-1, 4, LOW, HIGH}) {
      due(6, "draws of no slot", x.draws(i), BAD);
      due(7, "slice of no slice", x.slice(i, 0), BAD);
    }
    int[][] all = {{0, 1, 2}, {1, 34, 0}, {2, 99, 1}, {3, 0, 9}};
    for (int i = 0; i < 4; i++) for (int what = 0; what < 3; what++) due(7, "slice(" + i + ", " + what + ")", x.slice(i, what), all[i][what]);
    due(7, "no such what", x.slice(0, 3), BAD);
    due(7, "no such what", x.slice(0, -1), BAD);
    due(37, "slots", x.count(0), 4);
    due(37, "slices", x.count(1), 4);
    x.type(0, 'x');
    due(6, "draws with a fault", x.draws(0), BAD);
    due(37, "slots with a fault", x.count(0), 0);
    due(37, "bytes with a fault", x.count(2), 5);
    due(37, "bytes of slices", x.count(3), 19);
  }

  /** What was answered before a change must not be answered behind it. */
  private static void changes() {
    ToastGaol x = gaol("3", "c500");
    due(13, "as told", x.heat(0, 0), 46);
    x.type(0, '3');
    due(2, "another slot changes nothing here", x.heat(0, 0), 46);
    x.type(1, ';');
    due(13, "no slices", x.heat(0, 0), BAD);
    type(x, 1, "c601");
    due(2, "a hotter one beside it", x.heat(0, 0), 47);
    x.undo(0);
    due(4, "it leans", x.heat(0, 0), 46);
    due(15, "one slot", x.held(0), 1);
    x.wipe(0);
    due(3, "all lean", x.heat(0, 0), 49);
    due(3, "no slots", x.count(0), 0);
    due(15, "no slot", x.held(0), 0);
    x.set(0, 29);
    due(8, "how cold is cold", x.quiet(), NONE);
    x.set(0, 30);
    due(8, "how cold is cold", x.quiet(), 29);
    x.wipe(1);
    due(3, "no slices", x.quiet(), 0);
  }

  private static void settings() {
    ToastGaol x = gaol("1", "w500");
    int[] first = {10, 0, 40}, most = {30, 9, 99};
    for (int what = 0; what < 3; what++) {
      due(8, "above the greatest", x.set(what, most[what] + 1), BAD);
      due(8, "below the least", x.set(what, -1), BAD);
      due(8, "what it was at first", x.set(what, most[what]), first[what]);
      due(8, "what it was", x.set(what, 0), most[what]);
      due(8, "what it was", x.set(what, first[what]), 0);
    }
    for (int what : new int[] {-1, 3, LOW, HIGH}) due(8, "no such what", x.set(what, 0), BAD);

    for (int h : new int[] {-1, 30, LOW, HIGH}) {
      due(9, "no hour", x.butter(h, 0), BAD);
      due(10, "no hour", x.fire(h), BAD);
    }
    for (int s : new int[] {-1, 8, LOW, HIGH}) due(9, "no slice", x.butter(0, s), BAD);
    for (int i = 1; i <= 8; i++) due(9, "butter", x.butter(i == 1 ? 29 : 0, i == 2 ? 7 : 1), i);
    due(9, "a ninth", x.butter(0, 0), FULL);
    due(9, "a ninth in no hour", x.butter(30, 0), BAD);
    for (int i = 1; i <= 4; i++) due(10, "fire", x.fire(29), i);
    due(10, "a fifth", x.fire(0), FULL);
    due(10, "a fifth in no hour", x.fire(-1), BAD);
    for (int what : new int[] {-1, 2, LOW, HIGH}) due(11, "no such what", x.back(what), BAD);
    for (int i = 7; i >= 0; i--) due(11, "back of a butter", x.back(0), i);
    due(11, "back of none", x.back(0), NOT);
    due(37, "fires are still there", x.count(5), 4);
    for (int i = 3; i >= 0; i--) due(11, "back of a fire", x.back(1), i);
    due(11, "back of none", x.back(1), NOT);

    x = gaol("0", "c500;c500");
    x.butter(0, 0);
    x.butter(0, 1);
    due(17, "both go soft", x.spoilt(), 3);
    x.back(0);
    due(11, "the last butter is undone, not the first", x.spoilt(), 1);
    x.fire(0);
    due(10, "a fire", x.heat(0, 0), 70);
    x.back(1);
    due(11, "the fire is undone", x.heat(0, 0), 50);
  }

  private static void reads() {
    ToastGaol even = gaol("0", "c500;c500;c500");
    even.sheet(3, 2, 2);
    even.lay(3, 2, 1, 1);
    due(12, "two items are one", even.read(3), 1);
    due(12, "slice 1", even.spoilt(), 2);
    ToastGaol x = gaol("0", "c500;c500;c500");
    for (int s : new int[] {-1, 4, LOW, HIGH}) due(12, "no sheet", x.read(s), BAD);
    due(12, "a lost sheet", x.read(0), NULL);
    due(12, "the finding", x.count(8), 1);
    x.sheet(0, 2, 0);
    due(12, "an empty sheet", x.read(0), 0);
    x.sheet(0, 0, 5);
    x.lay(0, 0, 1, 2);
    x.lay(0, 0, 4, 1);
    due(12, "two whole ones, and half of one", x.read(0), 2);
    due(12, "butters", x.count(4), 2);
    due(12, "the first item is the hour, the second the slice", x.spoilt(), 5);
    due(12, "once more: they come behind those there are", x.read(0), 2);
    due(12, "butters", x.count(4), 4);
    x.sheet(1, 1, 20);
    x.lay(1, 1, 2, 29);
    x.lay(1, 1, 3, 7);
    x.lay(1, 1, 5, 8);
    due(12, "as long as each may be: no slice 8", x.read(1), 2);
    x.lay(1, 1, 5, -1);
    due(12, "as long as each may be: it is full", x.read(1), 2);
    due(12, "butters", x.count(4), 8);
    due(12, "as long as each may be: it was full", x.read(1), 0);
    x.sheet(2, 2, 4);
    x.lay(2, 2, 0, 30);
    for (int i = 0; i < 8; i++) x.back(0);
    due(12, "no hour 30 at first", x.read(2), 0);
    due(12, "no butters", x.count(4), 0);
  }

  private static void cooling() {
    String[] kinds = {"w", "c", "b", "t"};
    int[][] by = {{5, 4, 2, 4}, {3, 2, 1, 2}, {1, 0, 0, 0}};
    int[] summers = {0, 2, 9};
    for (int y = 0; y < 3; y++) for (int k = 0; k < 4; k++) {
      ToastGaol x = gaol("3", kinds[k] + "500");
      x.set(1, summers[y]);
      due(13, kinds[k] + " in a summer of " + summers[y], x.heat(0, 0), 50 - by[y][k]);
      due(13, kinds[k] + " in a summer of " + summers[y] + " by hour 2", x.heat(2, 0), 50 - 3 * by[y][k]);
    }
    int[] beside = {3, 2, 1, 4};
    for (int k = 0; k < 4; k++) {
      ToastGaol x = gaol("333", kinds[k] + "501;c600;c602");
      due(13, kinds[k] + " between two hotter ones", x.heat(0, 0), 50 - beside[k]);
      due(13, "a hotter one beside a colder one", x.heat(0, 1), 56);
    }
    due(13, "one beside one as hot", gaol("33", "c500;c501").heat(0, 0), 46);
    due(13, "two apart", gaol("333", "c500;c992").heat(0, 0), 46);
    due(13, "no slot beside the last", gaol("33", "c501;c992").heat(0, 0), 46);
    due(13, "one that leans beside it", gaol("33", "c500;c401;c991").heat(0, 0), 46);
    ToastGaol x = gaol("90", "c500;c451");
    due(13, "all cool at once", x.heat(0, 0), 40);
    due(13, "all cool at once: hotter at first", x.heat(0, 1), 45);
    due(13, "now it is the colder one", x.heat(1, 1), 44);
    x = gaol("99", "c200;t211");
    x.set(1, 9);
    due(13, "no warmer by those beside it", x.heat(0, 0), 20);
    due(13, "a triangle cools by 9 and 1 less 9", x.heat(0, 1), 20);
    x = gaol("9", "w050");
    x.set(0, 0);
    due(13, "none below 0", x.heat(0, 0), 0);
    due(14, "let go at 0", x.state(0, 0), FREE);
    x = gaol("", "w010");
    x.set(0, 0);
    due(13, "one that leans cools by 1", x.heat(0, 0), 0);
    due(14, "one that leans is let go", x.state(0, 0), FREE);
    x = gaol("0", "b990;w990");
    due(13, "burnt: half, cut", x.heat(29, 0), 99);
    due(13, "white that leans: by 1", x.heat(29, 1), 69);
    x = gaol("00", "c900;c850;c951");
    x.fire(0);
    due(10, "99 at most", x.heat(0, 0), 98);
    due(10, "one that leans is no hotter", x.heat(0, 1), 84);
    due(10, "99 at most: so none is hotter", x.heat(0, 2), 98);
    x.fire(1);
    x.fire(1);
    due(10, "two fires", x.heat(1, 0), 98);
    x = gaol("0", "c100");
    x.fire(0);
    x.fire(0);
    x.fire(1);
    due(10, "two fires, one hour", x.heat(0, 0), 49);
    due(10, "and one", x.heat(1, 0), 68);
    for (int h : new int[] {-1, 30, LOW, HIGH}) {
      due(13, "no hour", x.heat(h, 0), BAD);
      due(14, "no hour", x.state(h, 0), BAD);
      due(15, "no hour", x.held(h), BAD);
    }
    for (int s : new int[] {-1, 1, LOW, HIGH}) {
      due(13, "no slice", x.heat(0, s), BAD);
      due(14, "no slice", x.state(0, s), BAD);
      due(16, "no slice", x.freed(s, 0), BAD);
    }
  }

  private static void hours() {
    // both for slot 0: 30, 25, .. 10 behind hour 3; then the other stands from hour 4 on
    ToastGaol x = gaol("3", "w300;w400");
    due(14, "stands", x.state(0, 0), STANDS);
    due(14, "leans", x.state(0, 1), LEANS);
    due(15, "held", x.held(2), 1);
    due(14, "stands", x.state(2, 0), STANDS);
    due(14, "let go at COLD", x.state(3, 0), FREE);
    due(13, "as it went", x.heat(29, 0), 10);
    due(14, "leans until the next hour", x.state(3, 1), LEANS);
    due(15, "held by none", x.held(3), 0);
    due(14, "stands then", x.state(4, 1), STANDS);
    due(13, "4 hours by 1, one by 5", x.heat(4, 1), 31);
    due(15, "held again", x.held(4), 1);
    due(16, "freed", x.freed(0, 0), 3);
    due(16, "freed", x.freed(1, 0), 9);
    due(16, "how often", x.freed(1, 1), 1);
    due(16, "no such what", x.freed(0, 2), BAD);
    due(16, "no such what", x.freed(0, -1), BAD);
    due(18, "quiet", x.quiet(), 9);
    due(19, "crowd", x.crowd(0), 0);
    due(19, "who", x.crowd(1), 1);
    due(19, "no such what", x.crowd(2), BAD);
    due(19, "no such what", x.crowd(-1), BAD);
    due(37, "let go in all", x.count(6), 2);
    due(15, "bits", gaol("0000000000", "c999;c990;c994").held(0), 1 + 16 + 512);
    x = gaol("0000", "c994;c990");
    due(15, "a slot that there is not", x.held(29), 1);
    due(14, "leans", x.state(29, 0), LEANS);
    due(16, "never", x.freed(0, 0), NONE);
    due(16, "never", x.freed(0, 1), 0);
    due(18, "never quiet", x.quiet(), NONE);
    due(18, "quiet without slices", gaol("0", "").quiet(), 0);
    due(19, "slice 0", gaol("0", "c991;c990").crowd(1), 0);
    due(19, "later", gaol("9", "c400;t990;c999").crowd(1), 1);
    due(19, "no crowd", gaol("0", "c990").crowd(0), NONE);
    due(19, "no crowd", gaol("0", "c990").crowd(1), NONE);

    // butters: above SOFT only, of one that stands or leans, and its slot is empty at once
    x = gaol("0", "c400;c410;c990");
    x.butter(0, 0);
    due(9, "not above SOFT", x.state(0, 0), STANDS);
    x.butter(0, 1);
    due(9, "above SOFT, leaning", x.state(0, 1), SOFT);
    due(13, "as it went", x.heat(9, 1), 41);
    due(17, "spoilt", x.spoilt(), 2);
    due(16, "soft is not let go", x.freed(1, 1), 0);
    x.butter(29, 2);
    due(17, "spoilt later", x.spoilt(), 6);
    due(14, "ahead of it", x.state(28, 2), LEANS);
    x.set(2, 39);
    due(9, "above SOFT, standing", x.state(0, 0), SOFT);
    due(9, "the slot is taken in the next hour", x.state(0, 2), LEANS);
    due(9, "the slot is taken in the next hour", x.held(0), 0);
    due(14, "it stands", x.state(1, 2), STANDS);
    x.fire(1);
    due(13, "those that are gone are no hotter", x.heat(1, 0), 40);
    x = gaol("30", "c500;c601");
    x.butter(0, 1);
    due(13, "a soft one beside it is gone", x.heat(0, 0), 46);
    x = gaol("0", "c300");
    x.fire(0);
    x.butter(0, 0);
    due(9, "butters come behind fires", x.state(0, 0), SOFT);
    due(13, "as it went", x.heat(0, 0), 50);
    due(17, "one that was let go is not spoilt", gaol("0", "c000").spoilt(), 0);
    x = gaol("9", "w990");
    x.butter(29, 0);
    x.butter(29, 5);
    due(17, "let go ahead of it", x.spoilt(), 0);
  }

  private static void crusts() {
    // 40: 30, 20, 10 behind hour 2; again in hour 5 with 20: 10; half of 20 is not above COLD
    ToastGaol x = gaol("9", "c400");
    due(16, "first", x.freed(0, 0), 2);
    due(14, "three hours away", x.state(4, 0), FREE);
    due(13, "as it went", x.heat(4, 0), 10);
    due(16, "in all", x.freed(0, 1), 2);
    due(18, "the first hour", x.quiet(), 2);
    x.set(0, 9);
    due(16, "cold below: later", x.freed(0, 0), 3);
    due(13, "comes with half, and cools", x.heat(6, 0), 10);
    due(14, "and stands", x.state(6, 0), STANDS);
    due(16, "10 is above 9", x.freed(0, 1), 3);
    x.set(0, 30);
    due(16, "half is not above 30", x.freed(0, 1), 1);
    x = gaol("9", "c450");
    x.set(0, 15);
    due(13, "cut", x.heat(2, 0), 15);
    due(13, "22, less 10", x.heat(5, 0), 12);
    due(16, "in all", x.freed(0, 1), 2);
    due(14, "never again", x.state(29, 0), FREE);
    for (String kind : new String[] {"w", "b", "t"}) due(16, kind + " never comes again", gaol("9", kind + "400").freed(0, 1), 1);
    // the slot was taken: it leans, and the least number goes first
    x = gaol("9", "c400;t990");
    due(14, "leans when it comes again", x.state(5, 0), LEANS);
    due(13, "half, less 1", x.heat(5, 0), 19);
    due(19, "the first that leans", x.crowd(1), 1);
    x = gaol("9", "c400");
    x.fire(5);
    due(13, "a fire in the hour in which it comes again", x.heat(5, 0), 30);
    x.butter(5, 0);
    due(13, "20 and 20 is not above SOFT", x.heat(5, 0), 30);
    x.set(2, 39);
    due(14, "20 and 20 is above 39", x.state(5, 0), SOFT);
    due(14, "a soft one never comes again", x.state(29, 0), SOFT);
    due(16, "it was let go once", x.freed(0, 1), 1);
  }

  private static void plans() {
    ToastGaol x = gaol("0990", "c500;w110");
    due(20, "where it draws", x.move(0, 0), 1);
    due(20, "when: 50, 40, .. 10", x.move(0, 1), 3);
    due(20, "it is not moved", x.slice(0, 2), 0);
    due(20, "no slice", x.move(2, 0), BAD);
    due(20, "no slice", x.move(-1, 0), BAD);
    due(20, "no such what", x.move(0, 2), BAD);
    due(20, "no such what", x.move(0, -1), BAD);
    due(20, "its own, if none is sooner", gaol("9", "c500").move(0, 0), 0);
    due(20, "no slots", gaol("", "c110").move(0, 0), NONE);
    due(20, "no slots", gaol("", "c110").move(0, 1), NONE);
    due(20, "by none", gaol("00", "b990").move(0, 1), NONE);
    due(20, "from a slot that there is not", gaol("9", "w997").move(0, 1), 8);
    due(20, "others are in the way", gaol("95", "b990;c500").move(1, 0), 1);
    due(20, "others are in the way", gaol("95", "b990;c500").move(1, 1), 7);
    // the same hour by both: the least
    due(20, "of like ones the least", gaol("45", "c200;t201").move(0, 0), 0);

    x = gaol("9", "w500;b991");
    due(20, "one that has none, behind one that has", x.move(0, 1), 3);
    x.set(1, 9);
    due(20, "one that has none, behind one that has", x.move(1, 0), NONE);
    due(20, "one that has none, behind one that has", x.move(1, 1), NONE);
    // 60 by 1 an hour stays for all; by 10 it stays behind hours 0 to 3, again behind 7, and goes at once in hour 11
    x = gaol("09", "c600;w111");
    due(21, "the first", x.swap(0), 0);
    due(21, "the other", x.swap(1), 1);
    due(21, "how many", x.swap(2), 5);
    x.wipe(0);
    for (int what = 0; what < 3; what++) due(21, "none, behind some", x.swap(what), NONE);
    // with a burnt one that stands in slot 0 from hour 1 on for all: by 10, then by 9, behind 0 to 4, again behind 8 and 9
    due(21, "all hours, one for all", gaol("09", "c600;w111;b900").swap(2), 30 + 5 + 2);
    // 40 would stay behind 2 hours in place of 29, but the burnt one for all 30
    due(21, "better for one, worse for all", gaol("09", "c400;b111").swap(0), NONE);
    x = gaol("09", "c400;w111");
    due(21, "white goes anywhere", x.swap(2), 2);
    due(21, "no such what", x.swap(3), BAD);
    due(21, "no such what", x.swap(-1), BAD);
    due(21, "none fewer", gaol("90", "c400;w111").swap(0), NONE);
    due(21, "none fewer", gaol("90", "c400;w111").swap(2), NONE);
    due(21, "one slice", gaol("90", "c401").swap(1), NONE);
    x = gaol("099", "c400;w111;w112");
    due(21, "of like ones the least row", x.swap(1), 1);
    due(21, "slots stay as told", x.slice(0, 2), 0);

    due(23, "no slices: any summer", gaol("9", "").bear(), 9);
    due(23, "white: by 2 in a summer of 9", gaol("9", "w700").bear(), 9);
    due(23, "white: by 3 in a summer of 8", gaol("9", "w990").bear(), 8);
    x = gaol("9", "t400");
    due(23, "a triangle by 1 an hour", x.bear(), 9);
    x.set(0, 9);
    due(23, "a triangle by 2 an hour", x.bear(), 8);
    x.set(1, 9);
    due(23, "whatever summer is set", x.bear(), 8);
    due(23, "and it stays set", x.set(1, 0), 9);
    due(23, "none", gaol("0", "b990").bear(), NONE);
    due(23, "no summer at all", gaol("0", "t400").bear(), 0);
    due(23, "hardly any", gaol("1", "t400").bear(), 1);
    x = gaol("0", "b990");
    x.butter(0, 0);
    due(23, "one that went soft is no trouble", x.bear(), 9);
  }

  private static void lines() {
    // 50, 45, 40: it may be buttered in hour 2
    ToastGaol x = gaol("3", "w500");
    due(22, "not above SOFT", x.line(0), 2);
    x.fire(2);
    due(22, "60, 55, .. 40", x.line(0), 6);
    x.butter(1, 0);
    due(22, "it went soft", x.line(0), NONE);
    x.back(0);
    x.butter(6, 0);
    due(22, "another butter does no harm", x.line(0), 6);
    due(22, "no slice", x.line(1), BAD);
    due(22, "no slice", x.line(-1), BAD);
    due(22, "at once", gaol("3", "w400").line(0), 0);
    due(22, "one that leans", gaol("", "w420").line(0), 2);
    due(22, "in the last hour", gaol("", "w690").line(0), 29);
    due(22, "there is no hour 30", gaol("", "w700").line(0), NONE);
    x = gaol("9", "w500");
    x.set(2, 5);
    due(22, "let go above SOFT", x.line(0), NONE);
    x = gaol("9", "c500");
    x.set(2, 25);
    due(22, "20 in hour 3", x.line(0), 3);
    x.set(0, 20);
    due(22, "it comes again in hour 5 with 25", x.line(0), 5);
  }

  private static void sightings() {
    ToastGaol x = gaol("9", "w500");
    for (int h : new int[] {-1, 30, LOW, HIGH}) {
      due(24, "no hour", x.seen(h, 0, 0), BAD);
      due(28, "no hour", x.ask(h), BAD);
    }
    for (int s : new int[] {-1, 8, LOW, HIGH}) due(24, "no slice", x.seen(0, s, 0), BAD);
    for (int i : new int[] {-1, 4, LOW, HIGH}) due(24, "no state", x.seen(0, 0, i), BAD);
    for (int i = 1; i <= 8; i++) due(24, "seen", x.seen(i == 1 ? 29 : 0, i == 2 ? 7 : 0, i == 3 ? 3 : 1), i);
    due(24, "a ninth", x.seen(0, 0, 0), FULL);
    due(24, "a ninth in no hour", x.seen(30, 0, 0), BAD);
    due(37, "seen", x.count(7), 8);
    due(25, "forget", x.forget(), 8);
    due(25, "forget none", x.forget(), 0);

    due(26, "nothing seen", x.heats(0, NONE), 100);
    due(26, "nothing seen", x.heats(0, 42), 42);
    // by 11 an hour: it stands behind hour 1 from 33 on, and is let go by hour 2 up to 43
    x.seen(1, 0, STANDS);
    due(26, "stands", x.heats(0, NONE), 67);
    due(26, "stands", x.heats(0, 0), 33);
    x.seen(2, 0, FREE);
    due(26, "and is let go", x.heats(0, NONE), 11);
    due(26, "the last", x.heats(0, 10), 43);
    due(26, "no such", x.heats(0, 11), NONE);
    due(26, "no such", x.heats(0, 99), NONE);
    due(26, "no i", x.heats(0, 100), BAD);
    due(26, "no i", x.heats(0, -2), BAD);
    due(26, "no slice", x.heats(1, 0), BAD);
    due(26, "its own stays", x.slice(0, 1), 50);
    due(27, "no slice", x.slots(1), BAD);
    due(27, "no slice", x.slots(-1), BAD);
    due(27, "50 is not let go by hour 2", x.slots(0), 0);
    x.forget();
    x.seen(2, 0, STANDS);
    due(27, "where it stands", x.slots(0), 1);
    x.forget();
    x.seen(2, 0, LEANS);
    due(27, "slots that there are not", x.slots(0), 1022);
    due(27, "its own stays", x.slice(0, 2), 0);
    x.seen(2, 1, LEANS);
    due(26, "one that there is not: never", x.heats(0, NONE), 0);
    due(26, "one that there is not: never", x.heats(0, 0), NONE);
    due(27, "one that there is not: never", x.slots(0), 0);
    // a slice that goes soft counts as seen
    x = gaol("0", "c500");
    x.butter(0, 0);
    x.seen(0, 0, SOFT);
    due(26, "soft from 41 on", x.heats(0, 0), 41);

    // 37 cools by 9 less SUMMER (b is hotter): it is let go by hour 3 by summers 0 to 2, by hour 2 by 0 alone
    x = gaol("90", "b991;c370");
    due(28, "b is as it is in all ten", x.ask(3), 1);
    due(28, "both are alike behind hour 0", x.ask(0), 0);
    x.seen(3, 1, FREE);
    due(28, "no more to learn", x.ask(3), 0);
    due(28, "hour 2 tells", x.ask(2), 1);
    due(28, "the summer stays", x.set(1, 0), 0);
    due(28, "no slices", gaol("9", "").ask(3), NONE);
    ToastGaol y = gaol("9", "c401;c400");
    due(28, "one leans in all ten", y.ask(3), 1);
    due(28, "both are alike behind hour 0", y.ask(0), 0);
    x.seen(3, 1, STANDS);
    due(28, "by no summer: all are like", x.ask(3), 0);
  }

  private static void windows() {
    ToastGaol x = gaol("0", "c130");
    // by 1, or by 4 if open: 13 goes to 10 at once if it is open in hour 0, else 12, 11, 10
    long bad = Long.MIN_VALUE + 2;
    due(29, "open in hour 0", x.window(5, 0, 0, 0, 0), 5);
    due(29, "of 16", x.window(5, 0, 0, 0, 1), 16);
    due(29, "lowest terms", x.window(4, 0, 0, 0, 0), 1);
    due(29, "lowest terms", x.window(4, 0, 0, 0, 1), 4);
    due(29, "in one of two: 256 less 11 times 11", x.window(5, 9, 0, 1, 0), 256 - 121);
    due(29, "in one of two", x.window(5, 9, 0, 1, 1), 256);
    due(29, "only in hour 0", x.window(5, 0, 0, 1, 0), 5);
    due(29, "by hour 2 in any way", x.window(5, 9, 0, 2, 0), 1);
    due(29, "by hour 2 in any way", x.window(5, 9, 0, 2, 1), 1);
    due(29, "never open", x.window(0, 9, 0, 1, 0), 0);
    due(29, "0 by 1", x.window(0, 9, 0, 1, 1), 1);
    due(29, "always open", x.window(16, 0, 0, 0, 0), 1);
    // 99 by 1 an hour is 69 behind hour 29; all ten open would be 39; so never
    due(29, "never", gaol("0", "c990").window(15, 9, 0, 29, 0), 0);
    // 70 by 30 is 40, by ten times 3 more it is 10: only if it is open in all ten
    x = gaol("0", "c700");
    due(29, "all ten hours", x.window(1, 9, 0, 29, 0), 1);
    due(29, "16 to the tenth", x.window(1, 9, 0, 29, 1), 1L << 40);
    due(29, "all ten hours", x.window(3, 9, 0, 29, 0), 59049);
    due(29, "not in nine", x.window(3, 8, 0, 29, 0), 0);
    due(29, "one hour too few", x.window(3, 9, 0, 28, 0), 0);
    // a crust that has come again was let go all the same
    x = gaol("9", "c990");
    due(14, "it is back", x.state(12, 0), STANDS);
    due(29, "it was let go", x.window(0, 0, 0, 12, 0), 1);
    due(29, "c", x.window(17, 0, 0, 0, 0), bad);
    due(29, "c", x.window(-1, 0, 0, 0, 0), bad);
    due(29, "last", x.window(0, 10, 0, 0, 0), bad);
    due(29, "last", x.window(0, -1, 0, 0, 0), bad);
    due(29, "slice", x.window(0, 0, 1, 0, 0), bad);
    due(29, "slice", x.window(0, 0, -1, 0, 0), bad);
    due(29, "hour", x.window(0, 0, 0, 30, 0), bad);
    due(29, "hour", x.window(0, 0, 0, -1, 0), bad);
    due(29, "what", x.window(0, 0, 0, 0, 2), bad);
    due(29, "what", x.window(0, 0, 0, 0, -1), bad);
    x = gaol("00", "c990;c131");
    due(29, "a hotter one beside it", x.window(5, 0, 1, 0, 0), 5);
    due(29, "a hotter one beside it", x.window(5, 0, 1, 0, 1), 16);
    // the slot is free from hour 2 on: 48, 38, 28, 18, 8
    x = gaol("9", "w300;c500");
    due(29, "leans at first", x.window(0, 0, 1, 4, 0), 0);
    due(29, "leans at first", x.window(0, 0, 1, 5, 0), 1);
    // c40 beside it comes again in hour 5, with 20, and holds it up for an hour more
    x = gaol("90", "c400;c211");
    due(29, "held up by one that came again", x.window(0, 9, 1, 12, 0), 0);
    due(29, "held up by one that came again", x.window(0, 9, 1, 13, 0), 1);
    // it draws more where one stands, not for one that leans
    due(29, "leans", gaol("", "c130").window(16, 9, 0, 1, 0), 0);
    x = gaol("0", "c900");
    x.butter(0, 0);
    due(29, "soft is not let go", x.window(8, 9, 0, 29, 0), 0);
  }

  private static int lot(int[] seed, int m) {
    seed[0] = 1103515245 * seed[0] + 12345;
    return (seed[0] >>> 16) % m;
  }

  private static void others() {
    for (int seed : new int[] {0, 1, -1, 7, 123456789, LOW, HIGH}) {
      int[] s = {seed};
      StringBuilder slices = new StringBuilder("w990;b001;t992;c000;w999");
      ToastGaol x = gaol("31", slices.toString());
      for (int i = 0; i < 5; i++) {
        int heat = lot(s, 100);
        slices.setCharAt(i * 5 + 1, (char) ('0' + heat / 10));
        slices.setCharAt(i * 5 + 2, (char) ('0' + heat % 10));
      }
      ToastGaol as = gaol("31", slices.toString());
      for (ToastGaol y : new ToastGaol[] {x, as}) {
        y.butter(2, 0);
        y.butter(1, 2);
      }
      int free = 0;
      for (int i = 0; i < 5; i++) free += as.state(29, i) == FREE ? 1 : 0;
      due(30, "free by seed " + seed, x.others(seed, 0), free);
      due(30, "soft by seed " + seed, x.others(seed, 1), Integer.bitCount(as.spoilt()));
      due(30, "its own stay", x.slice(0, 1), 99);
    }
    ToastGaol x = gaol("9", "w990");
    due(30, "no such what", x.others(0, 2), BAD);
    due(30, "no such what", x.others(0, -1), BAD);
    due(30, "one", x.others(5, 0), 1);
    due(30, "none soft", x.others(5, 1), 0);
    due(30, "no slices", new ToastGaol().others(5, 0), 0);
  }

  private static void sheets() {
    ToastGaol x = new ToastGaol();
    for (int s : new int[] {-1, 4, LOW, HIGH}) {
      due(31, "no sheet", x.sheet(s, 0, 1), BAD);
      due(31, "no sheet, below 0", x.sheet(s, 0, -1), BAD);
      due(32, "no sheet", x.lose(s), BAD);
      due(33, "no sheet", x.lay(s, 0, 0, 0), BAD);
      due(34, "no sheet", x.get(s, 0, 0), LOW);
    }
    for (int f : new int[] {-1, 3, LOW, HIGH}) {
      due(31, "no form", x.sheet(0, f, 1), BAD);
      due(33, "no form", x.lay(0, f, 0, 0), BAD);
      due(34, "no form", x.get(0, f, 0), LOW);
    }
    due(31, "above 60", x.sheet(0, 0, 61), BAD);
    due(37, "BAD is no finding", x.count(8), 0);
    due(31, "below 0", x.sheet(0, 0, -1), SIZE);
    due(37, "finding", x.count(8), 5);
    due(31, "far below 0", x.sheet(0, 0, LOW), SIZE);
    due(34, "lost", x.get(0, 0, 0), LOW);
    due(37, "finding", x.count(8), 1);
    due(33, "lost", x.lay(0, 0, 0, 0), NULL);
    due(31, "60", x.sheet(0, 0, 60), 60);
    due(31, "a fault leaves it", x.sheet(0, 1, -5), SIZE);
    due(33, "the last", x.lay(0, 0, 59, 200), 1);
    due(34, "a byte", x.get(0, 0, 59), -56);
    due(33, "no item", x.lay(0, 0, 60, 1), INDEX);
    due(33, "no item", x.lay(0, 0, -1, 1), INDEX);
    due(33, "another form", x.lay(0, 1, 0, 1), CAST);
    due(33, "another form ahead of no item", x.lay(0, 2, 99, 1), CAST);
    due(37, "finding", x.count(8), 3);
    due(34, "no item", x.get(0, 0, 60), LOW);
    due(37, "finding", x.count(8), 2);
    due(34, "another form ahead of no item", x.get(0, 2, -1), LOW);
    due(37, "finding", x.count(8), 3);
    due(34, "nothing changed", x.get(0, 0, 0), 0);
    x.lay(0, 0, 0, 5);
    due(31, "a new row", x.sheet(0, 0, 60), 60);
    due(34, "0 at first", x.get(0, 0, 0), 0);
    due(34, "0 at first", x.get(0, 0, 59), 0);
    x.sheet(1, 1, 2);
    x.lay(1, 1, 1, 0x12348765);
    due(34, "a short", x.get(1, 1, 1), (short) 0x8765);
    x.sheet(2, 2, 2);
    x.lay(2, 2, 1, LOW + 1);
    due(34, "an int", x.get(2, 2, 1), LOW + 1);
    due(32, "lose", x.lose(0), 60);
    due(32, "lost", x.lose(0), NULL);
    due(31, "none", x.sheet(3, 0, 0), 0);
    due(33, "no item at all", x.lay(3, 0, 0, 0), INDEX);
    due(32, "lose one of none", x.lose(3), 0);
    due(37, "the latest finding stays", x.count(8), 2);
  }

  private static void copies() {
    ToastGaol x = new ToastGaol();
    for (int s : new int[] {-1, 4, LOW, HIGH}) {
      due(35, "no sheet", x.copy(s, 0, 0, 0, 0), BAD);
      due(35, "no sheet", x.copy(0, 0, s, 0, 0), BAD);
    }
    x.sheet(0, 0, 5);
    x.sheet(2, 1, 5);
    due(35, "t is lost", x.copy(0, 0, 1, 0, 1), NULL);
    due(35, "s is lost", x.copy(1, 0, 0, 0, 1), NULL);
    due(35, "unlike, ahead of no item", x.copy(0, -1, 2, 99, -1), STORE);
    due(35, "unlike, none", x.copy(0, 0, 2, 0, 0), STORE);
    due(37, "finding", x.count(8), 4);
    x.sheet(1, 0, 3);
    for (int i = 0; i < 5; i++) x.lay(0, 0, i, i + 1);
    due(35, "below 0", x.copy(0, -1, 1, 0, 1), INDEX);
    due(35, "below 0", x.copy(0, 0, 1, -1, 1), INDEX);
    due(35, "below 0", x.copy(0, 0, 1, 0, -1), INDEX);
    due(35, "not so many in s", x.copy(0, 3, 1, 0, 3), INDEX);
    due(35, "not so many in t", x.copy(0, 0, 1, 1, 3), INDEX);
    due(35, "far too many", x.copy(0, 1, 1, 1, HIGH), INDEX);
    due(35, "far away", x.copy(0, HIGH, 1, HIGH, HIGH), INDEX);
    due(35, "none from behind the end", x.copy(0, 6, 1, 0, 0), INDEX);
    due(34, "nothing changed", x.get(1, 0, 0), 0);
    due(35, "none at the end", x.copy(0, 5, 1, 3, 0), 1);
    due(35, "two", x.copy(0, 3, 1, 1, 2), 1);
    due(34, "as it was", x.get(1, 0, 0), 0);
    due(34, "copied", x.get(1, 0, 1), 4);
    due(34, "copied", x.get(1, 0, 2), 5);
    due(35, "onto itself, upwards", x.copy(0, 0, 0, 1, 4), 1);
    for (int i = 0; i < 5; i++) due(35, "as they were", x.get(0, 0, i), i == 0 ? 1 : i);
    due(35, "onto itself, downwards", x.copy(0, 1, 0, 0, 4), 1);
    for (int i = 0; i < 5; i++) due(35, "as they were", x.get(0, 0, i), i == 4 ? 4 : i + 1);
  }

  private static void writes() {
    ToastGaol x = gaol("30", "w500;c601;b900");
    for (int h : new int[] {-1, 30, LOW, HIGH}) due(36, "no hour", x.write(h, 0), BAD);
    for (int s : new int[] {-1, 4, LOW, HIGH}) due(36, "no sheet", x.write(0, s), BAD);
    due(36, "lost", x.write(0, 0), NULL);
    due(36, "finding", x.count(8), 1);
    x.sheet(0, 0, 2);
    due(36, "as many as there are items", x.write(0, 0), 2);
    due(36, "heat 0: 4 less 1 for c, and 1", x.get(0, 0, 0), 46);
    due(36, "heat 1", x.get(0, 0, 1), 59);
    x.sheet(1, 1, 5);
    x.lay(1, 1, 3, 77);
    due(36, "as many as there are slices", x.write(29, 1), 3);
    for (int i = 0; i < 3; i++) due(36, "heat", x.get(1, 1, i), x.heat(29, i));
    due(36, "no more", x.get(1, 1, 3), 77);
    x.sheet(2, 2, 0);
    due(36, "no items", x.write(0, 2), 0);
    due(36, "no slices", write(new ToastGaol()), 0);
  }

  private static int write(ToastGaol x) {
    x.sheet(0, 0, 9);
    return x.write(0, 0);
  }

  private static void counts() {
    ToastGaol x = gaol("93", "c400;w301");
    x.butter(0, 7);
    x.butter(0, 7);
    x.fire(29);
    x.seen(0, 0, 0);
    int[] want = {2, 2, 2, 9, 2, 1, 3, 1, 0};
    for (int what = 0; what <= 8; what++) due(37, "count(" + what + ")", x.count(what), want[what]);
    for (int what : new int[] {-1, 9, LOW, HIGH}) due(37, "no such what", x.count(what), BAD);
  }

  private static long digestOf(ToastGaol x, int slots, int slices) {
    long h = 17;
    for (int what = 0; what <= 7; what++) h = 31 * h + x.count(what);
    h = 31 * (31 * h + x.fault(0)) + x.fault(1);
    for (int i = 0; i < slots; i++) h = 31 * h + x.draws(i);
    for (int s = 0; s < slices; s++) {
      for (int what = 0; what < 3; what++) h = 31 * h + x.slice(s, what);
      for (int hour : new int[] {0, 5, 29}) h = 31 * (31 * h + x.heat(hour, s)) + x.state(hour, s);
      h = 31 * (31 * h + x.freed(s, 0)) + x.freed(s, 1);
      h = 31 * (31 * h + x.move(s, 0)) + x.move(s, 1);
      h = 31 * h + x.line(s);
      h = 31 * (31 * h + x.heats(s, NONE)) + x.heats(s, 0);
      h = 31 * h + x.slots(s);
      h = 31 * (31 * h + x.window(5, 5, s, 9, 0)) + x.window(5, 5, s, 9, 1);
    }
    h = 31 * h + x.held(5);
    h = 31 * h + x.spoilt();
    h = 31 * h + x.quiet();
    h = 31 * (31 * h + x.crowd(0)) + x.crowd(1);
    for (int what = 0; what < 3; what++) h = 31 * h + x.swap(what);
    h = 31 * h + x.bear();
    h = 31 * h + x.ask(5);
    return 31 * (31 * h + x.others(7, 0)) + x.others(7, 1);
  }

  private static void digests() {
    ToastGaol x = new ToastGaol();
    due(38, "of a new one", x.digest(), digestOf(x, 0, 0));
    x = gaol("2409", "c503;w451;b403;t122;w600;c999");
    due(38, "of a rack", x.digest(), digestOf(x, 4, 6));
    x.fire(3);
    x.butter(1, 4);
    x.seen(6, 0, 1);
    due(38, "of more", x.digest(), digestOf(x, 4, 6));
    long was = x.digest();
    x.sheet(0, 0, 3);
    x.get(0, 1, 0);
    due(38, "sheets and findings are not in it", x.digest(), was);
    x.type(0, 'x');
    due(38, "with a fault", x.digest(), digestOf(x, 0, 6));
    // as much of everything as there may be: no index may go too far
    x = gaol("9876543210", "c999;w988;b977;t966;c555;w444;b333;t990");
    for (int i = 0; i < 8; i++) x.butter(i, 7 - i);
    for (int i = 0; i < 4; i++) x.fire(i);
    for (int i = 0; i < 8; i++) x.seen(i, i, x.state(i, i));
    due(38, "of all that there may be", x.digest(), digestOf(x, 10, 8));
    due(38, "all that was seen comes out so", x.heats(7, NONE) > 0 ? 1 : 0, 1);
  }
}
