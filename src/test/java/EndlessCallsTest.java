/**
 * Any argument in any state, and far more calls than the document speaks of: no call may throw or
 * fail to end, and the counts of what there is must stay in their bounds.
 */
final class EndlessCallsTest {
  private static final int RUNS = 40;
  private static final int CALLS = 20000;
  private static final int[] EDGES = {
    Integer.MIN_VALUE, Integer.MIN_VALUE + 1, -1000, -10, -9, -2, -1, 0, 1, 2, 3, 7, 8, 9, 19, 20,
    21, 26, 27, 40, 41, 99, 100, 101, 249, 250, 251, 255, 256, 299, 300, 301, 1000, 1001, 2999, 3000,
    3001, 3999, 4000, 4001, 19999, 20000, 20001, Integer.MAX_VALUE - 1, Integer.MAX_VALUE
  };

  private final BundleLine x = new BundleLine();
  private long state;
  private int ticksLeft = 3000;

  private EndlessCallsTest(int run) {
    state = run * 977L + 5;
  }

  public static void main(String[] args) {
    askNothing();
    for (int run = 0; run < RUNS; run++) {
      new EndlessCallsTest(run).go(run % 2 == 0);
    }
    loseForEver();
    Due.end();
  }

  /** Every question of an object on which nothing was done. */
  private static void askNothing() {
    for (int a : EDGES) {
      for (int b : EDGES) {
        BundleLine x = new BundleLine();
        Due.is("line", x.line(a, b), -9);
        Due.is("piece", x.piece(a, b), -9);
        Due.is("lostOn", x.lostOn(a, b), -9);
        Due.is("queued", x.queued(a, b), -9);
        Due.is("under", x.under(a, b, 0), -9);
        Due.is("waits", x.waits(a), -9);
        Due.is("got", x.got(a, b), -1);
        Due.is("frameOf", x.frameOf(a, b), -9);
        Due.is("witness", x.witness(a, b), -9);
        Due.is("check", x.check(a, b), false);
        Due.is("lose", x.lose(a), -1);
        Due.is("bend", x.bend(a, b, a), -1);
        Due.is("fall", x.fall(a), -1);
        Due.is("rise", x.rise(a), -1);
        Due.is("lease", x.lease(a, b, b), -1);
        Due.is("grow", x.grow(a), -3);
        Due.is("six", x.status(21), 6);
        Due.is("one", x.status(23), 1);
      }
    }
  }

  private void go(boolean smallPieces) {
    if (smallPieces) {
      x.cut(1);
    }
    for (int i = 0; i < 5; i++) {
      x.open(below(4), 250 + below(751), 1 + below(40));
    }
    for (int call = 0; call < CALLS; call++) {
      if (below(3) == 0) {
        anyQuestion(any(), any(), any());
      } else {
        anyCall(any(), any(), any());
      }
      if (call % 500 == 0) {
        checkCounts();
      }
    }
    checkCounts();
  }

  private void anyCall(int a, int b, int c) {
    switch (below(13)) {
      case 0: x.open(a, b, c); break;
      case 1: x.lease(a, b, c); break;
      case 2: x.type(state, a); break;
      case 3: x.grow(a); break;
      case 4: x.frame(); break;
      case 5: x.cut(a); break;
      case 6: x.room(a); break;
      case 7: tickSometimes(a); break;
      case 8: x.bend(a, b, c); break;
      case 9: x.fall(a); break;
      case 10: x.rise(a); break;
      default: x.lose(a); break;
    }
  }

  /** TIME ends, but the calls go on. */
  private void tickSometimes(int n) {
    if (ticksLeft > 0) {
      ticksLeft--;
      x.tick(1 + below(3));
    } else {
      x.tick(n);
    }
  }

  private void anyQuestion(int a, int b, int c) {
    x.line(a, b);
    x.piece(a, b);
    x.lostOn(a, b);
    x.queued(a, b);
    x.under(a, b, c);
    x.waits(a);
    x.got(a, b);
    x.frameOf(a, b);
    x.credit();
    x.skew();
    x.witness(a, b);
    x.check(a, b);
    x.status(a);
  }

  private void checkCounts() {
    for (int line = 0; line < x.status(1); line++) {
      Due.is("QUEUE", x.line(line, 4) >= 0 && x.line(line, 4) <= 40, true);
      Due.is("waiting bytes", x.line(line, 5) >= 0 && x.line(line, 5) <= 40 * 250, true);
      Due.is("UNDER WAY", x.line(line, 6) >= 0 && x.line(line, 6) <= 200, true);
      Due.is("SEEN", x.line(line, 8) >= 0 && x.line(line, 8) <= x.line(line, 7), true);
    }
    int laid = 0;
    for (int piece = 0; piece < x.status(4); piece++) {
      laid += x.piece(piece, 0) == 1 ? 1 : 0;
    }
    Due.is("states", x.status(5) + x.status(6) + x.status(7) + laid, x.status(4));
    Due.is("TIME", x.status(0) <= 20000, true);
  }

  /** More pieces lost and not known to be so than 512 calls can make. */
  private static void loseForEver() {
    BundleLine x = new BundleLine();
    x.open(2, 40, 40);
    x.room(20000);
    x.cut(1);
    x.type(1, 1);
    x.grow(3000);
    x.frame();
    for (int tick = 0; tick < 300; tick++) {
      x.tick(1);
      for (int i = 0; i < 40; i++) {
        x.lose(0);
      }
    }
    Due.is("none came", x.line(0, 8), 0);
    Due.is("more than a row holds", x.line(0, 7) > 1100, true);
    x.tick(100);
    Due.is("some came", x.line(0, 8) > 1100, true);
    Due.is("it falls", x.fall(0) >= 0, true);
    Due.is("all is seen", x.line(0, 8), x.line(0, 7));
  }

  /** Mostly small ones, so that calls do something. */
  private int any() {
    return below(3) == 0 ? EDGES[below(EDGES.length)] : below(9);
  }

  private int below(int bound) {
    state = state * 6364136223846793005L + 1442695040888963407L;
    return (int) ((state >>> 33) % bound);
  }
}
