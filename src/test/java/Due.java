/** Counts the answers that are not the ones that are due; and makes frames to ask about. */
final class Due {
  private static int wrong = 0;
  private static int asked = 0;

  private Due() {}

  static void is(String call, long got, long want) {
    asked++;
    if (got != want) {
      wrong++;
      System.out.println(call + " answered " + got + ", due is " + want);
    }
  }

  static void is(String call, boolean got, boolean want) {
    is(call, got ? 1 : 0, want ? 1 : 0);
  }

  /** The answers of calls one after the other. */
  static void row(String calls, int[] got, int... want) {
    is(calls + ": how many", got.length, want.length);
    for (int i = 0; i < Math.min(got.length, want.length); i++) {
      is(calls + " at " + i, got[i], want[i]);
    }
  }

  /** A frame of so many bytes: 1, 2, 3, 1, 2, 3 .. */
  static int frameOfSize(BundleLine x, int size) {
    x.type(0x010203, Math.min(size, 3));
    x.grow(size);
    return x.frame();
  }

  static boolean anyWrong() {
    return wrong > 0;
  }

  static void end() {
    if (wrong > 0) {
      System.out.println(wrong + " of " + asked + " answers are not as due");
      System.exit(1);
    }
    System.out.println(asked + " answers, all as due");
  }
}
