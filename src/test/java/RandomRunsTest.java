/**
 * Many runs of 512 calls at most, made by a fixed row of numbers: BundleLine must answer each call,
 * and each question after it, as PlainBundle does.
 */
final class RandomRunsTest {
  private static final int RUNS = 600;
  private static final int CALLS = 500;

  // What the runs came to, so that runs which no longer reach an edge are noticed.
  private static int mostQueued;
  private static int mostUnderWay;
  private static int mostFrames;
  private static int mostPieces;
  private static int mostTime;
  private static int mostNotGiven;
  private static int mostSkew;
  private static int leastCredit;
  private static int mostUnheard;
  private static int mostRefused;
  private static int mostEmpties;
  private static int mostGiven;

  private final Numbers numbers;
  private final BundleLine real = new BundleLine();
  private final PlainBundle plain = new PlainBundle();
  private final String name;
  private final int speedTop;
  private final int delayTop;
  private final int cutTop;
  private final int frameTop;
  private final int harm;
  private final int falls;
  private final int longTicks;
  private final int wrongness;
  private String last = "";

  private RandomRunsTest(int run) {
    numbers = new Numbers(run);
    name = "run " + run;
    speedTop = numbers.oneOf(3, 30, 300, 1000, 1000);
    delayTop = numbers.oneOf(1, 3, 10, 40, 40);
    cutTop = numbers.oneOf(1, 3, 20, 100, 250, 250);
    frameTop = numbers.oneOf(1, 30, 300, 1000, 4000);
    harm = numbers.oneOf(0, 1, 5, 20, 60);
    falls = numbers.oneOf(0, 1, 3, 10);
    longTicks = numbers.oneOf(0, 1, 10, 60);
    wrongness = numbers.oneOf(0, 2, 10);
  }

  public static void main(String[] args) {
    for (int run = 0; run < RUNS && !Due.anyWrong(); run++) {
      new RandomRunsTest(run).go();
    }
    for (int run = 0; run < 5 && !Due.anyWrong(); run++) {
      new RandomRunsTest(RUNS + run).goToTheEndOfTime();
      new RandomRunsTest(RUNS + 100 + run).goToTheLastFrame();
      new RandomRunsTest(RUNS + 200 + run).goWithAllLost(40);
      new RandomRunsTest(RUNS + 300 + run).goWithAllLost(1);
    }
    if (!Due.anyWrong()) {
      checkReach();
    }
    Due.end();
  }

  private static void checkReach() {
    Due.is("reach: QUEUE", mostQueued, 40);
    Due.is("reach: UNDER WAY", mostUnderWay, 200);
    Due.is("reach: frames", mostFrames, 300);
    Due.is("reach: pieces", mostPieces, 3000);
    Due.is("reach: TIME", mostTime, 20000);
    Due.is("reach: frames not GIVEN", mostNotGiven, 100);
    Due.is("reach: skew above 100", mostSkew > 100, true);
    Due.is("reach: CREDIT below 0", leastCredit < 0, true);
    Due.is("reach: COUNT above SEEN by 300", mostUnheard > 300, true);
    Due.is("reach: refused", mostRefused > 30, true);
    Due.is("reach: EMPTIES", mostEmpties > 30, true);
    Due.is("reach: GIVEN", mostGiven > 100, true);
  }

  private void go() {
    prepare();
    for (int call = 10; call < CALLS && !Due.anyWrong(); call++) {
      anyCall();
      compare(call);
    }
    compareAll();
  }

  /** Ticks as long as they may be, till none is left. */
  private void goToTheEndOfTime() {
    prepare();
    for (int call = 10; call < CALLS && !Due.anyWrong(); call++) {
      if (call % 2 == 0) {
        tick(plain.status(0) < 19900 ? 100 : 1 + numbers.below(30));
      } else {
        anyCall();
      }
      compare(call);
    }
    compareAll();
  }

  /** Small frames, so that there are as many as there may be. */
  private void goToTheLastFrame() {
    open(0, 1000, 1);
    for (int call = 1; call < CALLS + 180 && !Due.anyWrong(); call++) {
      if (call % 4 == 3 && call > 220) {
        tick(1);
      } else {
        same("type", real.type(call, 1), plain.type(call, 1));
        same("frame", real.frame(), plain.frame());
      }
      compare(call);
    }
    compareAll();
  }

  /** Whatever is UNDER WAY is lost: with a long delay on the first line many pieces at once. */
  private void goWithAllLost(int delay) {
    open(2, 40, delay);
    cut(1);
    for (int call = 2; call < CALLS && !Due.anyWrong(); call++) {
      if (plain.line(0, 6) == 0 && plain.status(4) < 15 * delay) {
        makeFrame();
      }
      if (call > 450) {
        tick(1 + numbers.below(40));
      } else if (call % 40 == 39 || plain.under(0, plain.line(0, 6) - 1, 3) != 0) {
        tick(1);
      } else if (numbers.below(9) == 0) {
        bend(0, 0, 1 + numbers.below(255));
      } else {
        lose(0);
      }
      compare(call);
    }
    compareAll();
  }

  private void prepare() {
    int opened = 1 + numbers.below(8);
    for (int i = 0; i < opened; i++) {
      int kind = numbers.below(4);
      int least = kind == 0 ? 250 : 1;
      int speed = Math.max(least, 1 + numbers.below(speedTop));
      open(kind, speed, 1 + numbers.below(delayTop));
    }
    cut(1 + numbers.below(cutTop));
  }

  private void anyCall() {
    if (numbers.below(100) < wrongness) {
      anyWrongCall();
      return;
    }
    int weight = numbers.below(60 + 2 * harm + falls);
    if (weight < 20) {
      tick(numbers.below(100) < longTicks ? 1 + numbers.below(100) : 1 + numbers.below(4));
    } else if (weight < 40) {
      makeFrame();
    } else if (weight < 50) {
      ask();
    } else if (weight < 60) {
      setting();
    } else if (weight < 60 + harm) {
      lose(line());
    } else if (weight < 60 + 2 * harm) {
      bend(line(), numbers.below(1 + numbers.below(cutTop)), 1 + numbers.below(255));
    } else if (numbers.below(2) == 0) {
      fall(line());
    } else {
      rise(line());
    }
  }

  private void makeFrame() {
    long w = numbers.next();
    int n = 1 + numbers.below(8);
    same("type(" + w + ", " + n + ")", real.type(w, n), plain.type(w, n));
    int size = plain.status(8) + numbers.below(frameTop);
    if (frameTop > 1) {
      same("grow(" + size + ")", real.grow(size), plain.grow(size));
    }
    same("frame()", real.frame(), plain.frame());
  }

  private void setting() {
    int which = numbers.below(12);
    if (which == 0) {
      open(numbers.below(4), 1 + numbers.below(speedTop), 1 + numbers.below(delayTop));
    } else if (which < 3) {
      cut(1 + numbers.below(cutTop));
    } else if (which < 6) {
      room(numbers.oneOf(4000, 8000, 20000, 4000 + numbers.below(16001)));
    } else if (which < 9) {
      lease(line(), 250 + numbers.below(numbers.oneOf(1, 300, 3000, 19750)), 1 + numbers.below(20));
    } else {
      fall(line());
      rise(line());
    }
  }

  private void anyWrongCall() {
    int a = edge();
    int b = edge();
    int c = edge();
    switch (numbers.below(12)) {
      case 0: open(a, b, c); break;
      case 1: lease(a, b, c); break;
      case 2: same("type(1, " + a + ")", real.type(1, a), plain.type(1, a)); break;
      case 3: same("grow(" + a + ")", real.grow(a), plain.grow(a)); break;
      case 4: cut(a); break;
      case 5: room(a); break;
      case 6: tick(a > 4 && a <= 100 ? 0 : a); break;
      case 7: lose(a); break;
      case 8: bend(a, b, c); break;
      case 9: fall(a); break;
      case 10: rise(a); break;
      default: same("frame", real.frame(), plain.frame()); break;
    }
  }

  private int edge() {
    return numbers.oneOf(
        -1, 0, 9, 10, 1001, 41, 249, 19999, 20001, 21, 3999, 4001, 251, 256, 101,
        Integer.MIN_VALUE, Integer.MAX_VALUE);
  }

  private void ask() {
    int frame = numbers.below(plain.status(2) + 2) - 1;
    int i = numbers.oneOf(-2, -1, 0, plain.frameOf(frame, 0), numbers.below(4000));
    same("got(" + frame + ", " + i + ")", real.got(frame, i), plain.got(frame, i));
  }

  private int line() {
    return numbers.below(plain.status(1));
  }

  private void open(int kind, int speed, int delay) {
    String call = "open(" + kind + ", " + speed + ", " + delay + ")";
    same(call, real.open(kind, speed, delay), plain.open(kind, speed, delay));
  }

  private void lease(int line, int allowance, int span) {
    String call = "lease(" + line + ", " + allowance + ", " + span + ")";
    same(call, real.lease(line, allowance, span), plain.lease(line, allowance, span));
  }

  private void cut(int n) {
    same("cut(" + n + ")", real.cut(n), plain.cut(n));
  }

  private void room(int n) {
    same("room(" + n + ")", real.room(n), plain.room(n));
  }

  private void tick(int n) {
    same("tick(" + n + ")", real.tick(n), plain.tick(n));
  }

  private void lose(int line) {
    same("lose(" + line + ")", real.lose(line), plain.lose(line));
  }

  private void bend(int line, int i, int mask) {
    String call = "bend(" + line + ", " + i + ", " + mask + ")";
    same(call, real.bend(line, i, mask), plain.bend(line, i, mask));
  }

  private void fall(int line) {
    same("fall(" + line + ")", real.fall(line), plain.fall(line));
  }

  private void rise(int line) {
    same("rise(" + line + ")", real.rise(line), plain.rise(line));
  }

  private void same(String call, int got, int want) {
    last = call;
    Due.is(name + ": " + call, got, want);
  }

  private void isSame(String question, int got, int want) {
    if (got != want) {
      Due.is(name + " after " + last + ": " + question, got, want);
    }
  }

  private void compare(int call) {
    for (int what = -1; what < 28; what++) {
      isSame("status(" + what + ")", real.status(what), plain.status(what));
    }
    isSame("credit()", real.credit(), plain.credit());
    isSame("skew()", real.skew(), plain.skew());
    for (int line = -1; line <= plain.status(1); line++) {
      compareLine(line);
    }
    for (int k = 0; k < 20; k++) {
      comparePiece(numbers.below(plain.status(4) + 2) - 1);
    }
    int waiting = plain.status(6) + plain.status(7);
    for (int k = 0; k < 4; k++) {
      int i = k == 0 ? waiting : numbers.below(waiting + 1) - (k == 1 ? 1 : 0);
      isSame("waits(" + i + ")", real.waits(i), plain.waits(i));
    }
    compareFrame(numbers.below(plain.status(2) + 2) - 1);
    reach();
  }

  private void compareLine(int line) {
    for (int what = -1; what < 16; what++) {
      isSame("line(" + line + ", " + what + ")", real.line(line, what), plain.line(line, what));
    }
    for (int k = -1; k <= plain.line(line, 4); k++) {
      isSame("queued(" + line + ", " + k + ")", real.queued(line, k), plain.queued(line, k));
    }
    for (int k = -1; k <= plain.line(line, 6); k++) {
      for (int what = -1; what < 5; what++) {
        String question = "under(" + line + ", " + k + ", " + what + ")";
        isSame(question, real.under(line, k, what), plain.under(line, k, what));
      }
    }
  }

  private void comparePiece(int piece) {
    for (int what = -1; what < 8; what++) {
      isSame("piece(" + piece + ", " + what + ")", real.piece(piece, what), plain.piece(piece, what));
    }
    for (int line = -1; line <= plain.status(1); line++) {
      String question = "lostOn(" + piece + ", " + line + ")";
      isSame(question, real.lostOn(piece, line), plain.lostOn(piece, line));
    }
  }

  private void compareFrame(int frame) {
    for (int what = -1; what < 6; what++) {
      String question = "frameOf(" + frame + ", " + what + ")";
      isSame(question, real.frameOf(frame, what), plain.frameOf(frame, what));
    }
    int row = plain.frameOf(frame, 2);
    for (int k = -1; k <= row; k++) {
      isSame("witness(" + frame + ", " + k + ")", real.witness(frame, k), plain.witness(frame, k));
    }
    int sum = plain.sumOfRow(frame);
    for (int other = -1; other < 2; other++) {
      int got = real.check(frame, sum + other) ? 1 : 0;
      isSame("check(" + frame + ")", got, plain.check(frame, sum + other) ? 1 : 0);
    }
  }

  private void compareAll() {
    for (int piece = -1; piece <= plain.status(4); piece++) {
      comparePiece(piece);
    }
    for (int frame = -1; frame <= plain.status(2); frame++) {
      compareFrame(frame);
    }
    for (int i = -1; i <= plain.status(6) + plain.status(7); i++) {
      isSame("waits(" + i + ")", real.waits(i), plain.waits(i));
    }
    for (int frame = plain.status(3) - 21; frame <= plain.status(3); frame++) {
      for (int i = -2; i <= plain.frameOf(frame, 0); i += 1 + numbers.below(9)) {
        isSame("got(" + frame + ", " + i + ")", real.got(frame, i), plain.got(frame, i));
      }
    }
  }

  private void reach() {
    for (int line = 0; line < plain.status(1); line++) {
      mostQueued = Math.max(mostQueued, plain.line(line, 4));
      mostUnderWay = Math.max(mostUnderWay, plain.line(line, 6));
      mostUnheard = Math.max(mostUnheard, plain.line(line, 7) - plain.line(line, 8));
      mostRefused = Math.max(mostRefused, plain.line(line, 12));
    }
    mostTime = Math.max(mostTime, plain.status(0));
    mostFrames = Math.max(mostFrames, plain.status(2));
    mostGiven = Math.max(mostGiven, plain.status(3));
    mostNotGiven = Math.max(mostNotGiven, plain.status(2) - plain.status(3));
    mostPieces = Math.max(mostPieces, plain.status(4));
    mostEmpties = Math.max(mostEmpties, plain.status(12));
    mostSkew = Math.max(mostSkew, plain.skew());
    leastCredit = Math.min(leastCredit, plain.credit());
  }

  /** A row of numbers that is the same each time. */
  private static final class Numbers {
    private long state;

    Numbers(long seed) {
      state = seed * 7919 + 12345;
    }

    long next() {
      state = state * 6364136223846793005L + 1442695040888963407L;
      return state ^ (state >>> 29);
    }

    int below(int bound) {
      return bound < 1 ? 0 : (int) ((next() >>> 33) % bound);
    }

    int oneOf(int... these) {
      return these[below(these.length)];
    }
  }
}
