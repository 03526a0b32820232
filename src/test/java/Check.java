/** What the tests of promises share: answers that are due, and racks with slices in them. */
abstract class Check {
  static final int NONE = ToastGaol.NONE, BAD = ToastGaol.BAD, NOT = ToastGaol.NOT, FULL = ToastGaol.FULL;
  static final int NULL = -11, INDEX = -12, CAST = -13, STORE = -14, SIZE = -15;
  static final int LOW = Integer.MIN_VALUE, HIGH = Integer.MAX_VALUE;
  static final long BAD_LONG = Long.MIN_VALUE + 2;
  static final int LEANS = 0, STANDS = 1, FREE = 2, SOFT = 3;
  static int wrong = 0, asked = 0;

  static void due(int promise, String what, long got, long want) {
    asked++;
    if (got != want) {
      wrong++;
      System.out.println("promise " + promise + ": " + what + " answered " + got + ", due is " + want);
    }
  }

  static void type(ToastGaol x, int text, String s) {
    for (int i = 0; i < s.length(); i++) x.type(text, s.charAt(i));
  }

  static ToastGaol gaol(String rack, String slices) {
    ToastGaol x = new ToastGaol();
    type(x, 0, rack);
    type(x, 1, slices);
    return x;
  }

  /** The numbers that are outside of 0 .. most: the first on either side, and the last that an int can be. */
  static int[] outside(int most) {
    return new int[] {-1, most + 1, LOW, HIGH};
  }

  static void end() {
    System.out.println(wrong == 0 ? asked + " answers are as due" : wrong + " of " + asked + " answers are not as due");
    if (wrong != 0) System.exit(1);
  }
}
