import java.util.function.IntUnaryOperator;

/** Counts the answers that are not the ones that are due; and makes frames to ask about. */
final class Due {
  static final int LOWEST = Integer.MIN_VALUE;
  static final int HIGHEST = Integer.MAX_VALUE;
  static final int NONE = -9;

  private static int wrong = 0;
  private static int asked = 0;

  private Due() {}

  static void is(String call, long got, long want) {
    asked++;
    if (got != want) {
      wrong++;
      System.out.println(call + " answered " + got + ", due is " + want);
    }
  }

  static void is(String call, boolean got, boolean want) {
    is(call, got ? 1 : 0, want ? 1 : 0);
  }

  /** The answers of calls one after the other. */
  static void row(String calls, int[] got, int... want) {
    is(calls + ": how many", got.length, want.length);
    for (int i = 0; i < Math.min(got.length, want.length); i++) {
      is(calls + " at " + i, got[i], want[i]);
    }
  }

  /** One call with each of these arguments: the answer is always the same. */
  static void each(String call, IntUnaryOperator of, int want, int... these) {
    for (int n : these) {
      is(call + ", with " + n, of.applyAsInt(n), want);
    }
  }

  /** A frame of so many bytes: 1, 2, 3, 1, 2, 3 .. */
  static int frameOfSize(BundleLine x, int size) {
    x.type(0x010203, Math.min(size, 3));
    x.grow(size);
    return x.frame();
  }

  /** So many frames of one byte. */
  static void smallFrames(BundleLine x, int many) {
    for (int i = 0; i < many; i++) {
      x.type(i, 1);
      x.frame();
    }
  }

  /** What status() answers to each of these. */
  static int[] status(BundleLine x, int... asked) {
    int[] row = new int[asked.length];
    for (int i = 0; i < row.length; i++) {
      row[i] = x.status(asked[i]);
    }
    return row;
  }

  /** What line() answers to each of these. */
  static int[] line(BundleLine x, int line, int... asked) {
    int[] row = new int[asked.length];
    for (int i = 0; i < row.length; i++) {
      row[i] = x.line(line, asked[i]);
    }
    return row;
  }

  /** How many REFUSALS there were of -1 .. -6. */
  static int[] refusals(BundleLine x) {
    return status(x, 21, 22, 23, 24, 25, 26);
  }

  static boolean anyWrong() {
    return wrong > 0;
  }

  static void end() {
    if (wrong > 0) {
      System.out.println(wrong + " of " + asked + " answers are not as due");
      System.exit(1);
    }
    System.out.println(asked + " answers, all as due");
  }
}
