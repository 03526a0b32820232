/** The boundary cases that the document names for promises 1 to 12: texts, what is set, butters, fires, reading. */
public final class TextBoundsTest extends Check {
  private static final String FULL_RACK = "0123456789";
  private static final String FULL_SLICES = "w000;c111;b222;t333;w994;c985;b976;t969";

  public static void main(String[] args) {
    newObject();
    twoObjects();
    typeBounds();
    typeFull();
    wipeBounds();
    undoBounds();
    faultOfRacks();
    faultOfSlices();
    faultIsAsEmpty();
    drawsBounds();
    sliceBounds();
    setBounds();
    butterBounds();
    butterOfOneThatIsNotThere();
    fireBounds();
    backBounds();
    readSizes();
    readAsLongAsEachMayBe();
    readForms();
    readBehindOthers();
    end();
  }

  private static void newObject() {
    ToastGaol x = new ToastGaol();
    for (int what = 0; what <= 8; what++) due(1, "count(" + what + ")", x.count(what), 0);
    for (int text = 0; text <= 1; text++) {
      due(1, "fault of an empty text", x.fault(text), NONE);
      due(1, "wipe of an empty text", x.wipe(text), 0);
      due(1, "undo of an empty text", x.undo(text), NOT);
    }
    due(1, "no slot 0", x.draws(0), BAD);
    for (int what = 0; what <= 2; what++) due(1, "no slice 0", x.slice(0, what), BAD);
    for (int hour = 0; hour < 30; hour++) {
      due(1, "heat of no slice", x.heat(hour, 0), BAD);
      due(1, "state of no slice", x.state(hour, 0), BAD);
      due(1, "none stands", x.held(hour), 0);
      due(1, "none to ask for", x.ask(hour), NONE);
    }
    for (int what = 0; what <= 1; what++) {
      due(1, "freed", x.freed(0, what), BAD);
      due(1, "crowd", x.crowd(what), NONE);
      due(1, "move", x.move(0, what), BAD);
      due(1, "others", x.others(7, what), 0);
      due(1, "window", x.window(5, 5, 0, 9, what), BAD_LONG);
      due(1, "back", x.back(what), NOT);
    }
    due(1, "spoilt", x.spoilt(), 0);
    due(1, "quiet at once", x.quiet(), 0);
    for (int what = 0; what <= 2; what++) due(1, "swap", x.swap(what), NONE);
    due(1, "line", x.line(0), BAD);
    due(1, "bear", x.bear(), 9);
    due(1, "heats", x.heats(0, NONE), BAD);
    due(1, "slots", x.slots(0), BAD);
    due(1, "forget", x.forget(), 0);
    due(1, "COLD at first", x.set(0, 10), 10);
    due(1, "SUMMER at first", x.set(1, 0), 0);
    due(1, "SOFT at first", x.set(2, 40), 40);
    for (int s = 0; s <= 3; s++) {
      due(1, "a lost sheet: read", x.read(s), NULL);
      due(1, "a lost sheet: write", x.write(0, s), NULL);
      due(1, "a lost sheet: lose", x.lose(s), NULL);
      for (int form = 0; form <= 2; form++) due(1, "a lost sheet: get", x.get(s, form, 0), LOW);
    }
  }

  private static void twoObjects() {
    ToastGaol x = gaol(FULL_RACK, FULL_SLICES), y = new ToastGaol();
    x.set(0, 30);
    x.butter(0, 0);
    x.fire(0);
    x.seen(0, 0, 0);
    x.sheet(0, 0, 5);
    x.lose(1);
    for (int what = 0; what <= 8; what++) due(1, "count(" + what + ") beside another object", y.count(what), 0);
    due(1, "COLD beside another object", y.set(0, 10), 10);
    due(1, "a sheet beside another object", y.lose(0), NULL);
  }

  private static void typeBounds() {
    ToastGaol x = new ToastGaol();
    for (int text : outside(1)) due(2, "type(" + text + ", ..)", x.type(text, '0'), BAD);
    for (int text = 0; text <= 1; text++) {
      for (int b : outside(255)) due(2, "type(" + text + ", " + b + ")", x.type(text, b), BAD);
      due(2, "the least byte", x.type(text, 0), 1);
      due(2, "the greatest byte", x.type(text, 255), 2);
      due(2, "bytes", x.count(2 + text), 2);
      due(2, "both are kept, and the first is the fault", x.fault(text), 0);
      x.undo(text);
      x.undo(text);
    }
    for (int b = 0; b <= 255; b++) due(2, "byte " + b, new ToastGaol().type(b & 1, b), 1);
  }

  private static void typeFull() {
    ToastGaol x = new ToastGaol();
    for (int i = 1; i <= 10; i++) due(2, "a figure more", x.type(0, '4'), i);
    due(2, "an eleventh figure", x.type(0, '5'), FULL);
    due(2, "an eleventh byte that is no figure", x.type(0, 'x'), FULL);
    due(2, "BAD ahead of FULL", x.type(0, 256), BAD);
    due(2, "BAD ahead of FULL", x.type(0, -1), BAD);
    due(2, "the rack is as it was", x.fault(0), NONE);
    due(2, "bytes", x.count(2), 10);
    due(2, "slots", x.count(0), 10);
    for (int slot = 0; slot < 10; slot++) due(2, "draws as it did", x.draws(slot), 4);
    for (int i = 1; i <= 39; i++) due(2, "a byte more of the other text", x.type(1, FULL_SLICES.charAt(i - 1)), i);
    for (int b : new int[] {';', 'w', '0', 0, 255}) due(2, "a fortieth byte", x.type(1, b), FULL);
    due(2, "BAD ahead of FULL", x.type(1, 256), BAD);
    due(2, "the slices are as they were", x.fault(1), NONE);
    due(2, "bytes", x.count(3), 39);
    due(2, "slices", x.count(1), 8);
    due(2, "the last one is as it was", x.slice(7, 2), 9);
    x.undo(0);
    x.undo(1);
    due(2, "one was undone: the tenth again", x.type(0, '9'), 10);
    due(2, "and it is this one", x.draws(9), 9);
    due(2, "one was undone: the last again", x.type(1, '3'), 39);
    due(2, "and it is this one", x.slice(7, 2), 3);
    due(2, "full again", x.type(0, '9'), FULL);
    due(2, "full again", x.type(1, '3'), FULL);

    ToastGaol y = new ToastGaol();
    for (int i = 1; i <= 10; i++) y.type(0, 'x');
    for (int i = 1; i <= 39; i++) y.type(1, 0);
    due(2, "full of bytes with a fault", y.type(0, '1'), FULL);
    due(2, "full of bytes with a fault", y.type(1, 'w'), FULL);
    due(2, "bytes with a fault are counted", y.count(2), 10);
    due(2, "bytes with a fault are counted", y.count(3), 39);
  }

  private static void wipeBounds() {
    for (int text : outside(1)) due(3, "wipe(" + text + ")", gaol("1", "w000").wipe(text), BAD);
    for (int n = 0; n <= 10; n++) {
      ToastGaol x = gaol(FULL_RACK.substring(0, n), FULL_SLICES);
      due(3, "wipe of " + n + " figures", x.wipe(0), n);
      due(3, "it is empty", x.count(2), 0);
      due(3, "no slots", x.count(0), 0);
      due(3, "slices stay", x.count(1), 8);
      due(3, "wipe once more", x.wipe(0), 0);
      due(3, "the first again", x.type(0, '7'), 1);
      due(3, "nothing of the old one is left", x.draws(0), 7);
      due(3, "nothing of the old one is left", x.draws(1), BAD);
    }
    for (int n = 0; n <= 39; n++) {
      ToastGaol x = gaol(FULL_RACK, FULL_SLICES.substring(0, n));
      due(3, "wipe of " + n + " bytes", x.wipe(1), n);
      due(3, "it is empty", x.count(3), 0);
      due(3, "it is well", x.fault(1), NONE);
      due(3, "no slices", x.count(1), 0);
      due(3, "the rack stays", x.count(0), 10);
      due(3, "wipe once more", x.wipe(1), 0);
    }
    due(3, "wipe of a text with a fault", gaol("1x", "").wipe(0), 2);
    due(3, "wipe of a text with a fault", gaol("", "w;;").wipe(1), 3);
  }

  private static void undoBounds() {
    for (int text : outside(1)) due(4, "undo(" + text + ")", gaol("1", "w000").undo(text), BAD);
    ToastGaol x = gaol(FULL_RACK, FULL_SLICES);
    for (int left = 9; left >= 0; left--) {
      due(4, "undo of a figure", x.undo(0), left);
      due(4, "slots left", x.count(0), left);
    }
    due(4, "undo of an empty rack", x.undo(0), NOT);
    due(4, "bytes of the rack", x.count(2), 0);
    due(4, "slices stay", x.count(1), 8);
    for (int left = 38; left >= 0; left--) {
      due(4, "undo of a byte", x.undo(1), left);
      due(4, "bytes left", x.count(3), left);
      due(4, "whole slices left", x.count(1), left % 5 == 4 ? (left + 1) / 5 : 0);
    }
    due(4, "undo of no slices", x.undo(1), NOT);
    due(4, "and again", x.undo(1), NOT);
    due(4, "it may be typed again", x.type(1, 't'), 1);
    ToastGaol y = gaol("45x", "");
    due(4, "with a fault", y.fault(0), 2);
    due(4, "undo of the fault", y.undo(0), 2);
    due(4, "it is well", y.fault(0), NONE);
    due(4, "and draws as before", y.draws(1), 5);
  }

  private static void faultOfRacks() {
    for (int text : outside(1)) due(5, "fault(" + text + ")", gaol("1", "w000").fault(text), BAD);
    for (int n = 0; n <= 10; n++) due(5, n + " figures", gaol(FULL_RACK.substring(0, n), "").fault(0), NONE);
    for (int b = 0; b <= 255; b++) {
      due(5, "a rack of byte " + b, gaol(String.valueOf((char) b), "").fault(0), b >= 48 && b <= 57 ? NONE : 0);
    }
    for (int place = 0; place < 10; place++) {
      String broken = FULL_RACK.substring(0, place) + "/" + FULL_RACK.substring(place + 1);
      due(5, broken, gaol(broken, "").fault(0), place);
      due(5, "the first of two", gaol(FULL_RACK.substring(0, place) + ":x", "").fault(0), place);
    }
  }

  /** Of the bytes 0 to 255 those with which slices can go on, by the place in a slice. */
  private static boolean goesOn(int place, int b) {
    String may = place % 5 == 0 ? "wcbt" : place % 5 == 4 ? ";" : FULL_RACK;
    return may.indexOf((char) b) >= 0;
  }

  private static void faultOfSlices() {
    for (int n = 0; n <= 39; n++) {
      due(5, n + " bytes of slices", gaol("", FULL_SLICES.substring(0, n)).fault(1), n == 0 || n % 5 == 4 ? NONE : n);
    }
    for (int place = 0; place <= 9; place++) {
      for (int b = 0; b <= 255; b++) {
        int end = place + 1;
        int want = !goesOn(place, b) ? place : end % 5 == 4 ? NONE : end;
        due(5, "byte " + b + " at " + place, gaol("", FULL_SLICES.substring(0, place) + (char) b).fault(1), want);
      }
    }
    for (int place = 0; place < 39; place++) {
      String broken = FULL_SLICES.substring(0, place) + "!" + FULL_SLICES.substring(place + 1);
      due(5, broken, gaol("", broken).fault(1), place);
      due(5, "no slices of " + broken, gaol("", broken).count(1), 0);
      String twice = FULL_SLICES.substring(0, place) + "!" + FULL_SLICES.substring(place + 1, 39).replace('t', 'T');
      due(5, "the first of two", gaol("", twice).fault(1), place);
    }
  }

  private static void faultIsAsEmpty() {
    ToastGaol x = gaol("000x", "t990;b981");
    due(5, "no slots", x.count(0), 0);
    due(5, "no slot 0", x.draws(0), BAD);
    due(5, "none stands", x.held(0), 0);
    due(5, "all lean", x.state(0, 0), LEANS);
    due(5, "all lean", x.state(0, 1), LEANS);
    due(5, "no slot to move to", x.move(0, 0), NONE);
    due(5, "bytes are counted", x.count(2), 4);
    x.undo(0);
    due(5, "the slots are back", x.held(0), 3);
    x.type(1, ';');
    due(5, "not ended", x.fault(1), 10);
    due(5, "no slices", x.count(1), 0);
    for (int slice = 0; slice < 2; slice++) {
      due(5, "no slice", x.slice(slice, 0), BAD);
      due(5, "no slice", x.heat(0, slice), BAD);
      due(5, "no slice", x.state(0, slice), BAD);
      due(5, "no slice", x.freed(slice, 0), BAD);
      due(5, "no slice", x.move(slice, 0), BAD);
      due(5, "no slice", x.line(slice), BAD);
      due(5, "no slice", x.heats(slice, NONE), BAD);
      due(5, "no slice", x.slots(slice), BAD);
      due(5, "no slice", x.window(0, 0, slice, 0, 0), BAD_LONG);
    }
    due(5, "none stands", x.held(0), 0);
    due(5, "quiet at once", x.quiet(), 0);
    due(5, "none to ask for", x.ask(0), NONE);
    due(5, "all bear", x.bear(), 9);
    due(5, "bytes are counted", x.count(3), 10);
    x.undo(1);
    due(5, "the slices are back", x.held(0), 3);
  }

  private static void drawsBounds() {
    for (int n = 0; n <= 10; n++) {
      ToastGaol x = gaol(FULL_RACK.substring(10 - n), "");
      for (int slot = 0; slot < n; slot++) due(6, "slot " + slot + " of " + n, x.draws(slot), 10 - n + slot);
      for (int slot : outside(n - 1)) due(6, "slot " + slot + " of " + n, x.draws(slot), BAD);
      due(6, "slots", x.count(0), n);
    }
  }

  private static void sliceBounds() {
    int[][] all = {{0, 0, 0}, {1, 11, 1}, {2, 22, 2}, {3, 33, 3}, {0, 99, 4}, {1, 98, 5}, {2, 97, 6}, {3, 96, 9}};
    for (int n = 0; n <= 8; n++) {
      ToastGaol x = gaol("", n == 0 ? "" : FULL_SLICES.substring(0, 5 * n - 1));
      for (int what = 0; what <= 2; what++) {
        for (int slice = 0; slice < n; slice++) due(7, "slice(" + slice + ", " + what + ") of " + n, x.slice(slice, what), all[slice][what]);
        for (int slice : outside(n - 1)) due(7, "slice(" + slice + ", " + what + ") of " + n, x.slice(slice, what), BAD);
      }
      for (int slice = 0; slice < n; slice++) for (int what : outside(2)) due(7, "slice(.., " + what + ")", x.slice(slice, what), BAD);
      due(7, "slices", x.count(1), n);
    }
    for (int v = 0; v <= 99; v++) {
      ToastGaol x = gaol("", "b" + v / 10 + v % 10 + v % 10);
      due(7, "heat " + v, x.slice(0, 1), v);
      due(7, "slot " + v % 10, x.slice(0, 2), v % 10);
    }
  }

  private static void setBounds() {
    int[] first = {10, 0, 40}, most = {30, 9, 99};
    for (int what = 0; what <= 2; what++) {
      ToastGaol x = new ToastGaol();
      for (int v : outside(most[what])) due(8, "set(" + what + ", " + v + ")", x.set(what, v), BAD);
      due(8, "at first, and refusals changed nothing", x.set(what, 0), first[what]);
      for (int v = 1; v <= most[what]; v++) due(8, "set(" + what + ", " + v + ")", x.set(what, v), v - 1);
      for (int v : outside(most[what])) due(8, "set(" + what + ", " + v + ")", x.set(what, v), BAD);
      due(8, "the greatest is kept", x.set(what, most[what]), most[what]);
      due(8, "to what it is", x.set(what, 0), most[what]);
      for (int other = 0; other <= 2; other++) {
        if (other != what) due(8, "the others are as they were", x.set(other, first[other]), first[other]);
      }
    }
    ToastGaol x = new ToastGaol();
    for (int what : outside(2)) for (int v : new int[] {0, 5, -1}) due(8, "set(" + what + ", " + v + ")", x.set(what, v), BAD);
    for (int what = 0; what <= 2; what++) due(8, "as at first", x.set(what, 0), first[what]);

    // COLD: no more than it, so it itself too; all lean, and cool by 1
    for (int cold = 0; cold <= 30; cold++) {
      for (int above = 1; above <= 2; above++) {
        int heat = cold + above;
        ToastGaol y = gaol("", "t" + heat / 10 + heat % 10 + "0");
        y.set(0, cold);
        due(8, "COLD " + cold + ", behind hour 0 at " + (heat - 1), y.state(0, 0), above == 1 ? FREE : LEANS);
      }
    }
    // SOFT: above it, so not it itself
    for (int soft = 11; soft <= 99; soft++) {
      ToastGaol y = gaol("", "b" + soft / 10 + soft % 10 + "0");
      y.butter(0, 0);
      y.set(2, soft);
      due(8, "SOFT " + soft + " as hot", y.spoilt(), 0);
      y.set(2, soft - 1);
      due(8, "SOFT " + (soft - 1) + " and hotter by 1", y.spoilt(), 1);
    }
    ToastGaol y = gaol("", "b000;b010");
    y.set(0, 0);
    y.set(2, 0);
    y.butter(0, 0);
    y.butter(0, 1);
    due(8, "SOFT 0: 0 is not above it, 1 is", y.spoilt(), 2);
  }

  private static void butterBounds() {
    ToastGaol x = gaol("0000", "b900;b901;b902;b903");
    for (int hour : outside(29)) due(9, "butter(" + hour + ", 0)", x.butter(hour, 0), BAD);
    for (int slice : outside(7)) due(9, "butter(0, " + slice + ")", x.butter(0, slice), BAD);
    due(9, "butters behind refusals", x.count(4), 0);
    due(9, "none soft behind refusals", x.spoilt(), 0);
    due(9, "the first hour", x.butter(0, 0), 1);
    due(9, "the last hour", x.butter(29, 1), 2);
    for (int i = 3; i <= 8; i++) due(9, "one that there is not", x.butter(i, 7), i);
    due(9, "soft in the first hour", x.state(0, 0), SOFT);
    due(9, "not yet", x.state(28, 1), STANDS);
    due(9, "soft in the last hour", x.state(29, 1), SOFT);
    due(9, "a ninth", x.butter(0, 2), FULL);
    due(9, "BAD ahead of FULL", x.butter(30, 2), BAD);
    due(9, "BAD ahead of FULL", x.butter(0, 8), BAD);
    due(9, "butters", x.count(4), 8);
    due(9, "the ninth did nothing", x.spoilt(), 3);
    x.back(0);
    due(9, "one was undone: an eighth again", x.butter(0, 2), 8);
    due(9, "and it is this one", x.spoilt(), 7);
    due(9, "full again", x.butter(0, 3), FULL);
    for (int hour = 0; hour < 30; hour++) {
      ToastGaol y = gaol("0", "b900");
      due(9, "hour " + hour, y.butter(hour, 0), 1);
      if (hour > 0) due(9, "behind the hour before", y.state(hour - 1, 0), STANDS);
      due(9, "behind the hour", y.state(hour, 0), SOFT);
    }
  }

  private static void butterOfOneThatIsNotThere() {
    for (int slice = 0; slice <= 7; slice++) {
      ToastGaol x = new ToastGaol();
      due(9, "butter of slice " + slice + " that there is not", x.butter(0, slice), 1);
      type(x, 1, "b900;b901;b902;b903;b904;b905;b906;b907");
      due(9, "now there is one", x.spoilt(), 1 << slice);
      x.wipe(1);
      due(9, "the butter stays", x.count(4), 1);
      due(9, "and none is soft", x.spoilt(), 0);
    }
  }

  private static void fireBounds() {
    ToastGaol x = gaol("0", "b120");
    for (int hour : outside(29)) due(10, "fire(" + hour + ")", x.fire(hour), BAD);
    due(10, "fires behind refusals", x.count(5), 0);
    due(10, "no hotter behind refusals", x.heat(29, 0), 12);
    due(10, "the first hour", x.fire(0), 1);
    due(10, "the last hour", x.fire(29), 2);
    due(10, "hotter in the first", x.heat(0, 0), 32);
    due(10, "no more until the last", x.heat(28, 0), 32);
    due(10, "hotter in the last", x.heat(29, 0), 52);
    due(10, "a third", x.fire(29), 3);
    due(10, "a fourth", x.fire(29), 4);
    due(10, "three in one hour", x.heat(29, 0), 92);
    due(10, "a fifth", x.fire(5), FULL);
    due(10, "BAD ahead of FULL", x.fire(30), BAD);
    due(10, "BAD ahead of FULL", x.fire(-1), BAD);
    due(10, "fires", x.count(5), 4);
    due(10, "the fifth did nothing", x.heat(5, 0), 32);
    x.back(1);
    due(10, "one was undone: a fourth again", x.fire(5), 4);
    due(10, "and it is this one", x.heat(5, 0), 52);
    due(10, "full again", x.fire(5), FULL);
    for (int hour = 0; hour < 30; hour++) {
      ToastGaol y = gaol("0", "b500");
      due(10, "hour " + hour, y.fire(hour), 1);
      if (hour > 0) due(10, "behind the hour before", y.heat(hour - 1, 0), 50);
      due(10, "behind the hour", y.heat(hour, 0), 70);
    }
    // 99 at most, fire by fire; a burnt one does not cool where it draws 0
    int[] heats = {78, 79, 80, 99}, then = {98, 99, 99, 99};
    for (int i = 0; i < 4; i++) {
      ToastGaol y = gaol("0", "b" + heats[i] + "0");
      y.fire(0);
      due(10, heats[i] + " by one fire", y.heat(0, 0), then[i]);
    }
    int[] least = {0, 18, 19, 20}, hot = {80, 98, 99, 99};
    for (int i = 0; i < 4; i++) {
      ToastGaol y = gaol("0", "b" + least[i] / 10 + least[i] % 10 + "0");
      for (int fire = 0; fire < 4; fire++) y.fire(0);
      due(10, least[i] + " by four fires", y.heat(0, 0), hot[i]);
    }
    ToastGaol y = gaol("", "b500");
    y.fire(0);
    due(10, "one that leans is no hotter", y.heat(0, 0), 49);
    y = gaol("0", "b050");
    y.fire(1);
    due(10, "one that was let go is no hotter", y.heat(1, 0), 5);
  }

  private static void backBounds() {
    ToastGaol x = gaol("0", "b900");
    for (int what : outside(1)) due(11, "back(" + what + ")", x.back(what), BAD);
    due(11, "no butter", x.back(0), NOT);
    due(11, "no fire", x.back(1), NOT);
    for (int i = 0; i < 8; i++) x.butter(20 - i, 0);
    for (int i = 0; i < 4; i++) x.fire(3);
    for (int what : outside(1)) due(11, "back(" + what + ")", x.back(what), BAD);
    due(11, "butters behind refusals", x.count(4), 8);
    due(11, "fires behind refusals", x.count(5), 4);
    for (int left = 7; left >= 0; left--) {
      due(11, "soft by the last of them", x.state(20 - left, 0), SOFT);
      due(11, "not before", x.state(20 - left - 1, 0), STANDS);
      due(11, "back of a butter", x.back(0), left);
      due(11, "butters", x.count(4), left);
    }
    due(11, "none is left", x.spoilt(), 0);
    due(11, "back of none", x.back(0), NOT);
    due(11, "fires stay", x.count(5), 4);
    for (int left = 3; left >= 0; left--) due(11, "back of a fire", x.back(1), left);
    due(11, "back of none", x.back(1), NOT);
    due(11, "no fire is left", x.heat(3, 0), 90);
    due(11, "one butter", x.butter(0, 0), 1);
    due(11, "back of a fire is not of a butter", x.back(1), NOT);
    due(11, "butters", x.count(4), 1);
    x.back(0);
    x.fire(0);
    due(11, "back of a butter is not of a fire", x.back(0), NOT);
    due(11, "fires", x.count(5), 1);
  }

  /** A sheet of ints with n items in which hours and slices are 0. */
  private static ToastGaol withSheet(int n) {
    ToastGaol x = gaol("0", "b900");
    x.sheet(0, 2, n);
    return x;
  }

  private static void readSizes() {
    ToastGaol lost = new ToastGaol();
    for (int s : outside(3)) due(12, "read(" + s + ")", lost.read(s), BAD);
    due(12, "BAD is no finding", lost.count(8), 0);
    for (int s = 0; s <= 3; s++) due(12, "read of a lost sheet", lost.read(s), NULL);
    due(12, "the finding", lost.count(8), 1);
    due(12, "no butters", lost.count(4), 0);
    for (int n = 0; n <= 60; n++) {
      ToastGaol x = withSheet(n);
      int want = Math.min(n / 2, 8);
      due(12, "read of " + n + " items", x.read(0), want);
      due(12, "butters of " + n + " items", x.count(4), want);
      due(12, "soft by " + n + " items", x.spoilt(), want > 0 ? 1 : 0);
      due(12, "no finding", x.count(8), 0);
      due(12, "the sheet is as it was", x.lose(0), n);
    }
  }

  private static void readAsLongAsEachMayBe() {
    int[][] broken = {{-1, 0}, {30, 0}, {0, -1}, {0, 8}, {LOW, 0}, {HIGH, 0}, {0, LOW}, {0, HIGH}};
    for (int[] b : broken) {
      for (int at = 0; at < 4; at++) {
        ToastGaol x = withSheet(8);
        x.lay(0, 2, 2 * at, b[0]);
        x.lay(0, 2, 2 * at + 1, b[1]);
        due(12, "butter " + at + " is " + b[0] + ", " + b[1], x.read(0), at);
        due(12, "butters ahead of it, and none behind", x.count(4), at);
        due(12, "item " + 2 * at, x.get(0, 2, 2 * at), b[0]);
      }
    }
    int[][] well = {{0, 0}, {29, 0}, {0, 7}, {29, 7}};
    for (int[] w : well) {
      ToastGaol x = withSheet(2);
      x.lay(0, 2, 0, w[0]);
      x.lay(0, 2, 1, w[1]);
      due(12, "a butter of " + w[0] + ", " + w[1], x.read(0), 1);
    }
    ToastGaol x = withSheet(3);
    x.lay(0, 2, 2, -1);
    due(12, "half of one does not count", x.read(0), 1);
  }

  private static void readForms() {
    // the items are what the sheet holds, cut to its bits
    int[] cut = {0x10001, 0x10001, 1};
    for (int form = 0; form <= 2; form++) {
      ToastGaol x = gaol("00", "b900;b901");
      x.sheet(1, form, 2);
      x.lay(1, form, 0, form == 2 ? 1 : 0x10001);
      x.lay(1, form, 1, cut[form]);
      due(12, "a sheet of form " + form, x.read(1), 1);
      due(12, "in hour 1", x.state(0, 1), STANDS);
      due(12, "in hour 1", x.state(1, 1), SOFT);
      due(12, "slice 1", x.spoilt(), 2);
      x.lay(1, form, 0, -1);
      due(12, "below 0 in form " + form, x.read(1), 0);
    }
    ToastGaol x = gaol("0", "b900");
    x.sheet(0, 0, 2);
    x.lay(0, 0, 0, 255);
    due(12, "255 in a byte is below 0", x.read(0), 0);
    x.lay(0, 0, 0, 256);
    due(12, "256 in a byte is 0", x.read(0), 1);
  }

  private static void readBehindOthers() {
    for (int before = 0; before <= 8; before++) {
      ToastGaol x = withSheet(6);
      for (int i = 0; i < before; i++) x.butter(29, 5);
      int want = Math.min(3, 8 - before);
      due(12, "three behind " + before, x.read(0), want);
      due(12, "butters", x.count(4), before + want);
      due(12, "they count", x.spoilt(), want > 0 ? 1 : 0);
      due(12, "being full is no refusal", x.count(8), 0);
      for (int i = 0; i < want; i++) x.back(0);
      due(12, "the last are those of the sheet", x.spoilt(), 0);
      due(12, "those before stay", x.count(4), before);
    }
  }
}
