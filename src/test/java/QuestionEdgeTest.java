import java.math.BigInteger;

/**
 * Each sentence of promises 14 to 26 that names an edge has a test of its own here, under the
 * promise's number and the sentence's words: no such line, piece, frame, what; the first and the
 * last of a row, empty rows and full ones.
 */
final class QuestionEdgeTest {
  private static final int NONE = Due.NONE;
  private static final int LOWEST = Due.LOWEST;
  private static final int HIGHEST = Due.HIGHEST;

  private QuestionEdgeTest() {}

  public static void main(String[] args) {
    lineAndPiece();
    rows();
    got();
    frameOf();
    credit();
    skew();
    witness();
    check();
    status();
    Due.end();
  }

  // ---- 14: line, 15: piece, 16: lostOn

  private static void lineAndPiece() {
    lineNoSuchLine();
    lineAnotherWhat();
    lineThatIsNotLeased();
    pieceNoSuchPiece();
    pieceAnotherWhat();
    pieceNotLaid();
    pieceOnTheGreatestLine();
    lostOnNoSuchPiece();
    lostOnNoSuchLine();
    piecesOfAFullRow();
  }

  private static void lineNoSuchLine() {
    Due.each("14: no lines", n -> Made.withLines(0).line(n, 0), NONE, LOWEST, -1, 0, 1, HIGHEST);
    Due.each("14: no such line", n -> Made.withLines(8).line(n, 0), NONE, LOWEST, -1, 8, HIGHEST);
    Due.each("14: each line", n -> Made.withLines(8).line(n, 0), 3, 0, 1, 2, 3, 4, 5, 6, 7);
  }

  private static void lineAnotherWhat() {
    Due.each("14: another what",
        w -> Made.withLines(1).line(0, w), NONE, LOWEST, -1, 15, 16, HIGHEST);
    Due.is("14: the least what", Made.withLines(1).line(0, 0), 3);
    Due.is("14: the greatest what", Made.withLines(1).line(0, 14), 4);
  }

  private static void lineThatIsNotLeased() {
    for (int kind = 0; kind < 3; kind++) {
      int[] row = Due.line(Made.withLine(kind, 300, 1), 0, 13, 14);
      Due.row("14: ALLOWANCE and SPAN of KIND " + kind, row, 0, 0);
    }
  }

  private static void pieceNoSuchPiece() {
    Due.each("15: no pieces", p -> Made.withTray(3).piece(p, 0), NONE, LOWEST, -1, 0, 1, HIGHEST);
    BundleLine x = Made.withTwoPieces();
    Due.each("15: no such piece", p -> x.piece(p, 0), NONE, LOWEST, -2, -1, 2, 3, HIGHEST);
    Due.each("15: each piece", p -> x.piece(p, 0), 0, 0, 1);
  }

  private static void pieceAnotherWhat() {
    BundleLine x = Made.withTwoPieces();
    Due.each("15: another what", w -> x.piece(1, w), NONE, LOWEST, -1, 7, 8, HIGHEST);
    Due.is("15: the least what", x.piece(1, 0), 0);
    Due.is("15: the greatest what", x.piece(1, 6), 1);
  }

  private static void pieceNotLaid() {
    BundleLine x = Made.withTray(3);
    x.frame();
    Due.is("15: NONE, as it was not laid", x.piece(0, 4), NONE);
    Due.is("15: no TRIES", x.piece(0, 3), 0);
    x.open(1, 1, 1);
    x.tick(1);
    Due.is("15: line 0, the least", x.piece(0, 4), 0);
    Due.is("15: one TRY", x.piece(0, 3), 1);
  }

  private static void pieceOnTheGreatestLine() {
    BundleLine x = new BundleLine();
    for (int i = 0; i < 8; i++) {
      x.open(1, i == 7 ? 2 : 1, 1);
    }
    Due.frameOfSize(x, 3);
    x.tick(1);
    Due.is("15: line 7, the greatest", x.piece(0, 4), 7);
    x.fall(7);
    Due.is("15: LOST, it was laid there last", x.piece(0, 4), 7);
    Due.is("16: on line 7, the greatest", x.lostOn(0, 7), 1);
    Due.is("16: not on line 6", x.lostOn(0, 6), 0);
    Due.is("16: not on line 0", x.lostOn(0, 0), 0);
  }

  private static void lostOnNoSuchPiece() {
    BundleLine none = Made.withLines(2);
    Due.each("16: no pieces", p -> none.lostOn(p, 0), NONE, LOWEST, -1, 0, 1, HIGHEST);
    BundleLine x = Made.withTwoPieces();
    x.open(1, 1, 1);
    Due.each("16: no such piece", p -> x.lostOn(p, 0), NONE, LOWEST, -2, -1, 2, HIGHEST);
    Due.each("16: each piece", p -> x.lostOn(p, 0), 0, 0, 1);
  }

  private static void lostOnNoSuchLine() {
    BundleLine x = Made.withTwoPieces();
    Due.each("16: no lines", n -> x.lostOn(0, n), NONE, LOWEST, -1, 0, 7, HIGHEST);
    for (int lines = 1; lines <= 8; lines++) {
      x.open(1, 1, 1);
      Due.is("16: the greatest line", x.lostOn(0, lines - 1), 0);
      Due.each("16: no such line", n -> x.lostOn(0, n), NONE, LOWEST, -1, lines, 8, HIGHEST);
    }
  }

  private static void piecesOfAFullRow() {
    BundleLine x = Made.withTray(3000);
    x.cut(1);
    x.frame();
    x.open(1, 1, 1);
    Due.is("15: piece 2999", x.piece(2999, 0), 0);
    Due.is("15: piece 3000", x.piece(3000, 0), NONE);
    Due.is("16: piece 2999", x.lostOn(2999, 0), 0);
    Due.is("16: piece 3000", x.lostOn(3000, 0), NONE);
    Due.is("19: i 2999", x.waits(2999), 2999);
    Due.is("19: i 3000", x.waits(3000), NONE);
  }

  // ---- 17: queued, 18: under, 19: waits

  private static void rows() {
    queuedNoSuchLine();
    queuedNoSuchPiece();
    queuedOfAnEmptyQueue();
    queuedOfAFullQueue();
    underNoSuchLine();
    underNoSuchPiece();
    underNoSuchWhat();
    underOfAFullRow();
    waitsNone();
    waitsOfAnEmptyRow();
    waitsOfLostAndNewOnes();
    waitsWithoutLinesOrCredit();
    waitsBehindAGreatFrame();
  }

  private static void queuedNoSuchLine() {
    Due.each("17: no lines", n -> Made.withLines(0).queued(n, 0), NONE, LOWEST, -1, 0, 1, HIGHEST);
    BundleLine x = Made.withTwoQueued();
    Due.each("17: no such line", n -> x.queued(n, 0), NONE, LOWEST, -1, 1, 8, HIGHEST);
  }

  private static void queuedNoSuchPiece() {
    BundleLine x = Made.withTwoQueued();
    Due.each("17: no such piece", k -> x.queued(0, k), NONE, LOWEST, -1, 2, 3, 64, HIGHEST);
    Due.is("17: the least k", x.queued(0, 0), 0);
    Due.is("17: the greatest k", x.queued(0, 1), 1);
  }

  private static void queuedOfAnEmptyQueue() {
    int[] any = {LOWEST, -1, 0, 1, HIGHEST};
    Due.each("17: an empty QUEUE", k -> Made.withLines(1).queued(0, k), NONE, any);
    BundleLine x = Made.withTwoQueued();
    x.fall(0);
    Due.each("17: an empty QUEUE, as it fell", k -> x.queued(0, k), NONE, any);
    BundleLine y = Made.withTwoQueued();
    y.tick(3);
    Due.each("17: an empty QUEUE, as all were sent", k -> y.queued(0, k), NONE, any);
  }

  private static void queuedOfAFullQueue() {
    BundleLine x = Made.withLine(1, 1, 1);
    x.cut(2);
    Due.frameOfSize(x, 160);
    for (int i = 0; i < 35; i++) {
      x.tick(2);
      Due.is("17: a full QUEUE", x.line(0, 4), 39);
      Due.is("17: k 0 of it", x.queued(0, 0), i + 1);
      Due.is("17: k 38 of it", x.queued(0, 38), i + 39);
      Due.is("17: k 39 is not there", x.queued(0, 39), NONE);
    }
    x.tick(1);
    Due.is("17: k 39", x.queued(0, 39), 74);
    Due.is("17: k 40", x.queued(0, 40), NONE);
  }

  private static void underNoSuchLine() {
    Due.each("18: no lines",
        n -> Made.withLines(0).under(n, 0, 0), NONE, LOWEST, -1, 0, 1, HIGHEST);
    BundleLine x = Made.withTwoUnderWay(0);
    Due.each("18: no such line", n -> x.under(n, 0, 0), NONE, LOWEST, -1, 1, 8, HIGHEST);
  }

  private static void underNoSuchPiece() {
    int[] any = {LOWEST, -1, 0, 1, HIGHEST};
    Due.each("18: none UNDER WAY", k -> Made.withLines(1).under(0, k, 0), NONE, any);
    BundleLine x = Made.withTwoUnderWay(0);
    Due.each("18: no such piece", k -> x.under(0, k, 0), NONE, LOWEST, -1, 2, 3, 256, HIGHEST);
    Due.is("18: the least k", x.under(0, 0, 0), 0);
    Due.is("18: the greatest k", x.under(0, 1, 0), 1);
    x.tick(1);
    Due.each("18: none UNDER WAY, as all came", k -> x.under(0, k, 0), NONE, any);
    BundleLine y = Made.withTwoUnderWay(0);
    y.fall(0);
    Due.each("18: none UNDER WAY, as it fell", k -> y.under(0, k, 0), NONE, any);
  }

  private static void underNoSuchWhat() {
    BundleLine x = Made.withTwoUnderWay(0);
    Due.each("18: no such what", w -> x.under(0, 1, w), NONE, LOWEST, -1, 4, 5, HIGHEST);
    Due.is("18: the least what", x.under(0, 1, 0), 1);
    Due.is("18: the greatest what", x.under(0, 1, 3), 0);
  }

  private static void underOfAFullRow() {
    BundleLine x = Made.withLine(1, 40, 40);
    x.cut(1);
    Due.frameOfSize(x, 300);
    x.tick(40);
    Due.is("18: 200 UNDER WAY", x.line(0, 6), 200);
    Due.is("18: k 0", x.under(0, 0, 1), 0);
    Due.is("18: k 199", x.under(0, 199, 1), 199);
    Due.is("18: k 200", x.under(0, 200, 1), NONE);
    x.tick(2);
    // 80 came at TIME 41 and 42; 40 were sent at 42, as a full row sends none at 41.
    Due.is("18: 160 UNDER WAY", x.line(0, 6), 160);
    Due.is("18: k 0 then", x.under(0, 0, 1), 80);
    Due.is("18: k 159", x.under(0, 159, 1), 239);
    Due.is("18: k 160", x.under(0, 160, 1), NONE);
    x.tick(1);
    Due.is("18: count 279", x.under(0, 159, 1), 279);
    Due.is("18: it comes at 83", x.under(0, 159, 2), 83);
  }

  private static void waitsNone() {
    BundleLine x = Made.withTwoPieces();
    Due.each("19: no i-th one", x::waits, NONE, LOWEST, -1, 2, 3, HIGHEST);
    Due.row("19: each one", new int[] {x.waits(0), x.waits(1)}, 0, 1);
  }

  private static void waitsOfAnEmptyRow() {
    int[] any = {LOWEST, -1, 0, 1, HIGHEST};
    Due.each("19: no pieces", i -> Made.withTray(3).waits(i), NONE, any);
    BundleLine x = Made.withTwoQueued();
    Due.each("19: all are LAID", x::waits, NONE, any);
    x.tick(10);
    Due.each("19: all are THERE", x::waits, NONE, any);
  }

  private static void waitsOfLostAndNewOnes() {
    BundleLine x = Made.withTwoQueued();
    x.fall(0);
    Due.row("19: LOST ones", new int[] {x.waits(0), x.waits(1), x.waits(2)}, 0, 1, NONE);
    Due.each("19: no i-th LOST one", x::waits, NONE, LOWEST, -1, 2, 3, HIGHEST);
    Due.frameOfSize(x, 1);
    Due.row("19: LOST, then NEW", new int[] {x.waits(1), x.waits(2), x.waits(3)}, 1, 2, NONE);
    Due.each("19: no i-th one of both", x::waits, NONE, LOWEST, -1, 3, 4, HIGHEST);
  }

  /** Lines and CREDIT aside. */
  private static void waitsWithoutLinesOrCredit() {
    BundleLine x = Made.withTray(4000);
    x.room(4000);
    x.frame();
    Due.frameOfSize(x, 10);
    Due.row("19: no line", new int[] {x.waits(0), x.waits(16), x.waits(17)}, 0, 16, NONE);
    x.open(1, 1, 1);
    x.tick(1);
    Due.is("19: CREDIT 0", x.credit(), 0);
    Due.row("19: it lacks CREDIT", new int[] {x.waits(0), x.waits(1)}, 16, NONE);
    x.fall(0);
    Due.row("19: no line is UP", new int[] {x.waits(0), x.waits(16), x.waits(17)}, 0, 16, NONE);
    x.rise(0);
    Due.row("19: a line is UP", new int[] {x.waits(0), x.waits(16), x.waits(17)}, 0, 16, NONE);
  }

  /** Two bytes are LOST and one is NEW, behind 50 pieces that are GIVEN; the TRAY is full. */
  private static void waitsBehindAGreatFrame() {
    BundleLine x = Made.withAGreatFrameGiven();
    Due.frameOfSize(x, 2);
    x.tick(1);
    x.fall(0);
    Due.frameOfSize(x, 1);
    x.type(1, 1);
    x.grow(4000);
    int[] row = {x.waits(0), x.waits(1), x.waits(2), x.waits(3)};
    Due.row("19: LOST, then NEW, numbers through all frames", row, 50, 51, 52, NONE);
    x.rise(0);
    x.tick(1);
    Due.is("19: all are laid", x.waits(0), NONE);
    Due.row("15: TRIES", new int[] {x.piece(50, 3), x.piece(51, 3), x.piece(52, 3)}, 2, 2, 1);
  }

  // ---- 20: got

  private static void got() {
    gotNoSuchFrame();
    gotNotGiven();
    gotBehindOneThatIsNotGiven();
    gotBehindAGreatFrame();
    gotNoSuchByte();
    gotOfTheLatest20();
    gotOf4000();
  }

  private static void gotNoSuchFrame() {
    Due.each("20: no frames", f -> Made.withTray(3).got(f, 0), -1, LOWEST, -1, 0, 1, HIGHEST);
    BundleLine x = Made.withLine(0, 1000, 1);
    Due.smallFrames(x, 2);
    x.tick(2);
    Due.each("20: no such frame", f -> x.got(f, 0), -1, LOWEST, -1, 2, 3, HIGHEST);
    Due.is("20: the least frame", x.got(0, 0), 0);
    Due.is("20: the greatest frame", x.got(1, 0), 1);
  }

  private static void gotNotGiven() {
    BundleLine x = Made.withLine(0, 250, 1);
    Due.frameOfSize(x, 251);
    int[] any = {LOWEST, -2, -1, 0, 250, 251, HIGHEST};
    Due.each("20: it is not GIVEN", i -> x.got(0, i), -3, any);
    x.tick(2);
    Due.is("20: its first piece is THERE", x.frameOf(0, 3), 1);
    Due.each("20: it is not GIVEN yet", i -> x.got(0, i), -3, any);
    x.tick(1);
    Due.is("20: it is GIVEN", x.got(0, 250), 2);
  }

  /** All that came of them is no matter, nor how far behind they are. */
  private static void gotBehindOneThatIsNotGiven() {
    BundleLine x = Made.withTwoBehindOneThatIsLost();
    int[] any = {LOWEST, -2, -1, 0, 1, HIGHEST};
    for (int frame = 0; frame < 3; frame++) {
      int of = frame;
      Due.each("20: not GIVEN, frame " + of, i -> x.got(of, i), -3, any);
    }
    x.tick(2);
    for (int frame = 0; frame < 3; frame++) {
      Due.is("20: GIVEN, frame " + frame, x.got(frame, 0), frame);
    }
  }

  /** Frames are counted, neither their pieces nor their bytes. */
  private static void gotBehindAGreatFrame() {
    BundleLine x = Made.withAGreatFrameGiven();
    Due.smallFrames(x, 2);
    x.tick(1);
    Due.is("20: the great one", x.got(0, -1), 250);
    Due.is("20: not GIVEN, the next one", x.got(1, 0), -3);
    Due.is("20: not GIVEN, the last one", x.got(2, -1), -3);
    Due.is("24: not GIVEN, the next one", x.witness(1, 0), NONE);
    Due.is("25: not GIVEN, the next one", x.check(1, 100), false);
    for (int i = 3; i < 20; i++) {
      Due.smallFrames(x, 1);
    }
    x.tick(2);
    Due.row("26: GIVEN", Due.status(x, 3, 5, 9), 20, 69, 269);
    Due.is("20: the great one is the first of 20", x.got(0, 249), 1);
    Due.smallFrames(x, 1);
    x.tick(2);
    Due.is("20: the great one is the first of 21", x.got(0, 249), -3);
    Due.is("20: the last one of 21", x.got(20, 0), 0);
  }

  private static void gotNoSuchByte() {
    BundleLine x = Made.withLine(0, 1000, 1);
    x.type(0xFF0080, 3);
    x.frame();
    x.tick(2);
    Due.is("20: i -1", x.got(0, -1), 3);
    Due.row("20: each byte", new int[] {x.got(0, 0), x.got(0, 1), x.got(0, 2)}, 255, 0, 128);
    Due.each("20: no such byte", i -> x.got(0, i), -3, LOWEST, -3, -2, 3, 4, HIGHEST);
  }

  private static void gotOfTheLatest20() {
    BundleLine x = Made.withLine(1, 1, 1);
    Due.smallFrames(x, 23);
    x.tick(20);
    // One each tick from TIME 2 on.
    Due.is("20: 19 were GIVEN", x.status(3), 19);
    Due.is("20: the first of 19", x.got(0, 0), 0);
    x.tick(1);
    Due.is("20: the first of 20", x.got(0, 0), 0);
    Due.is("20: the last of 20", x.got(19, 0), 19);
    Due.is("20: the next is not GIVEN", x.got(20, 0), -3);
    x.tick(1);
    Due.each("20: not kept any more", i -> x.got(0, i), -3, LOWEST, -1, 0, 1, HIGHEST);
    Due.is("20: the second of 21", x.got(1, 0), 1);
    Due.is("20: the last of 21", x.got(20, 0), 20);
    x.tick(1);
    Due.is("20: the second of 22", x.got(1, 0), -3);
    Due.is("20: the third of 22", x.got(2, -1), 1);
    Due.is("20: the first of 22, still", x.got(0, 0), -3);
  }

  private static void gotOf4000() {
    BundleLine x = Made.withLine(0, 1000, 1);
    x.type(0x0102030405060708L, 7);
    x.grow(4000);
    x.frame();
    x.tick(5);
    Due.is("20: 4000 bytes", x.got(0, -1), 4000);
    Due.is("20: byte 0", x.got(0, 0), 2);
    // 3999 is 571 times 7 and 2.
    Due.is("20: byte 3999", x.got(0, 3999), 4);
    Due.is("20: byte 4000", x.got(0, 4000), -3);
  }

  // ---- 21: frameOf, 22: credit, 23: skew

  private static void frameOf() {
    frameOfNoSuchFrame();
    frameOfAnotherWhat();
    frameOfOneThatIsNotGiven();
    frameOfOneBehindIt();
  }

  private static void frameOfNoSuchFrame() {
    Due.each("21: no frames", f -> Made.withTray(3).frameOf(f, 0), NONE, LOWEST, -1, 0, 1, HIGHEST);
    BundleLine x = new BundleLine();
    Due.smallFrames(x, 2);
    Due.each("21: no such frame", f -> x.frameOf(f, 0), NONE, LOWEST, -1, 2, 3, HIGHEST);
    Due.each("21: each frame", f -> x.frameOf(f, 0), 1, 0, 1);
  }

  private static void frameOfAnotherWhat() {
    BundleLine x = Made.withLine(0, 1000, 1);
    Due.smallFrames(x, 2);
    x.tick(2);
    Due.each("21: another what", w -> x.frameOf(1, w), NONE, LOWEST, -1, 5, 6, HIGHEST);
    Due.is("21: the least what", x.frameOf(1, 0), 1);
    Due.is("21: the greatest what", x.frameOf(1, 4), 2);
  }

  private static void frameOfOneThatIsNotGiven() {
    BundleLine x = Made.withLine(0, 1000, 1);
    Due.smallFrames(x, 2);
    Due.is("21: not GIVEN", x.frameOf(1, 4), NONE);
    Due.is("21: none THERE", x.frameOf(1, 3), 0);
    x.tick(2);
    Due.is("21: GIVEN at TIME 2", x.frameOf(1, 4), 2);
    Due.is("21: all THERE", x.frameOf(1, 3), 1);
    x.tick(20);
    Due.is("21: it was at TIME 2", x.frameOf(1, 4), 2);
  }

  private static void frameOfOneBehindIt() {
    BundleLine x = Made.withTwoBehindOneThatIsLost();
    for (int frame = 1; frame < 3; frame++) {
      Due.is("21: all THERE, frame " + frame, x.frameOf(frame, 3), 1);
      Due.is("21: not GIVEN, frame " + frame, x.frameOf(frame, 4), NONE);
    }
    Due.row("26: GIVEN, THERE, bytes of GIVEN frames", Due.status(x, 3, 5, 9), 0, 2, 0);
    x.tick(2);
    for (int frame = 0; frame < 3; frame++) {
      Due.is("21: GIVEN at TIME 4, frame " + frame, x.frameOf(frame, 4), 4);
    }
    Due.row("26: GIVEN, THERE, bytes of GIVEN frames then", Due.status(x, 3, 5, 9), 3, 3, 3);
  }

  private static void credit() {
    creditDownTo0();
    creditBelow0();
    creditBehindOneThatIsNotGiven();
  }

  private static void creditBehindOneThatIsNotGiven() {
    BundleLine x = Made.withTwoBehindOneThatIsLost();
    Due.is("22: of no frame that is GIVEN", x.credit(), 7997);
    x.tick(2);
    Due.is("22: all are GIVEN", x.credit(), 8000);
  }

  private static void creditDownTo0() {
    BundleLine x = Made.withLine(1, 1, 1);
    x.room(4000);
    Due.is("22: all of ROOM", x.credit(), 4000);
    x.type(1, 1);
    x.grow(3999);
    x.frame();
    Due.is("22: all of ROOM, with NEW ones", x.credit(), 4000);
    x.tick(1);
    Due.is("22: 1 is left", x.credit(), 1);
    x.type(1, 1);
    x.frame();
    x.tick(1);
    Due.is("22: 0 is left", x.credit(), 0);
  }

  private static void creditBelow0() {
    BundleLine x = Made.withLine(1, 1, 1);
    x.room(4001);
    x.type(1, 1);
    x.grow(4000);
    x.frame();
    x.tick(1);
    x.type(1, 1);
    x.frame();
    x.tick(1);
    x.room(4000);
    Due.is("22: below 0", x.credit(), -1);
    x.room(20000);
    Due.is("22: the greatest ROOM", x.credit(), 15999);
  }

  private static void skew() {
    skewOfNone();
    skewOfMinus1();
    skewOfGivenFrames();
    skewOverTwoLines();
    skewBehindOneThatIsNotGiven();
    skewBehindAGreatFrame();
  }

  private static void skewBehindAGreatFrame() {
    BundleLine x = Made.withAGreatFrameGiven();
    Due.frameOfSize(x, 4);
    x.tick(1);
    x.lose(0);
    x.tick(1);
    Due.is("23: 53 less 50", x.skew(), 3);
    x.tick(2);
    Due.is("23: both frames are GIVEN", x.skew(), 0);
  }

  private static void skewBehindOneThatIsNotGiven() {
    BundleLine x = Made.withTwoBehindOneThatIsLost();
    Due.is("23: 2 less 0", x.skew(), 2);
    x.tick(2);
    Due.is("23: all are GIVEN then", x.skew(), 0);
  }

  private static void skewOfNone() {
    Due.is("23: no pieces", new BundleLine().skew(), 0);
    BundleLine x = Made.withTwoQueued();
    Due.is("23: none is THERE", x.skew(), 0);
    x.fall(0);
    Due.is("23: all are LOST", x.skew(), 0);
  }

  private static void skewOfMinus1() {
    BundleLine x = Made.withThreeOnAWay();
    x.tick(2);
    Due.is("23: 0 less 1", x.skew(), -1);
    x.tick(1);
    Due.is("23: 1 less 2", x.skew(), -1);
  }

  private static void skewOfGivenFrames() {
    BundleLine x = Made.withThreeOnAWay();
    x.tick(4);
    Due.is("23: all are GIVEN", x.skew(), 0);
    Due.frameOfSize(x, 2);
    Due.is("23: none of a frame that is not GIVEN", x.skew(), 0);
    x.tick(2);
    Due.is("23: 3 less 4", x.skew(), -1);
  }

  private static void skewOverTwoLines() {
    BundleLine x = Made.withLine(1, 10, 40);
    x.open(1, 1, 1);
    x.cut(20);
    Due.frameOfSize(x, 20);
    x.cut(1);
    Due.frameOfSize(x, 2);
    // 0 goes over line 0 in 2 ticks; 1 and 2 over line 1 in 1 and 2, as line 0 would take 3.
    x.tick(2);
    Due.is("23: 1 less 0", x.skew(), 1);
    x.tick(1);
    Due.is("23: 2 less 0", x.skew(), 2);
    Due.is("23: the second frame is not GIVEN", x.status(3), 0);
    x.tick(38);
    Due.is("23: at TIME 41", x.skew(), 2);
    x.tick(1);
    Due.is("23: both are GIVEN", x.skew(), 0);
  }

  // ---- 24: witness, 25: check, 26: status

  private static void witness() {
    witnessNoSuchFrame();
    witnessNotGiven();
    witnessBehindOneThatIsNotGiven();
    witnessNoSuchPiece();
    witnessOfTheGreatestLine();
    witnessOfManyTries();
  }

  private static void witnessNoSuchFrame() {
    Due.each("24: no frames", f -> Made.withTray(1).witness(f, 0), NONE, LOWEST, -1, 0, 1, HIGHEST);
    BundleLine x = Made.withTwoFramesGiven();
    Due.each("24: no such frame", f -> x.witness(f, 0), NONE, LOWEST, -1, 2, 3, HIGHEST);
    Due.each("24: each frame", f -> x.witness(f, 0), 100, 0, 1);
  }

  private static void witnessNotGiven() {
    BundleLine x = Made.withThreeOnAWay();
    int[] any = {LOWEST, -1, 0, 1, 2, 3, HIGHEST};
    Due.each("24: it is not GIVEN", k -> x.witness(0, k), NONE, any);
    x.tick(3);
    Due.is("24: two of three are THERE", x.frameOf(0, 3), 2);
    Due.each("24: it is not GIVEN yet", k -> x.witness(0, k), NONE, any);
    x.tick(1);
    Due.each("24: it is GIVEN", k -> x.witness(0, k), 100, 0, 1, 2);
  }

  private static void witnessBehindOneThatIsNotGiven() {
    BundleLine x = Made.withTwoBehindOneThatIsLost();
    Due.each("24: it is THERE, not GIVEN", f -> x.witness(f, 0), NONE, 0, 1, 2);
    x.tick(2);
    int[] row = {x.witness(0, 0), x.witness(1, 0), x.witness(2, 0)};
    Due.row("24: all are GIVEN", row, 200, 100, 100);
  }

  private static void witnessNoSuchPiece() {
    BundleLine x = Made.withTwoFramesGiven();
    for (int frame = 0; frame < 2; frame++) {
      int of = frame;
      Due.each("24: no such piece", k -> x.witness(of, k), NONE, LOWEST, -2, -1, 2, 3, HIGHEST);
      Due.each("24: each piece", k -> x.witness(of, k), 100, 0, 1);
    }
  }

  private static void witnessOfTheGreatestLine() {
    BundleLine x = new BundleLine();
    for (int i = 0; i < 8; i++) {
      x.open(1, i == 7 ? 2 : 1, 1);
    }
    Due.frameOfSize(x, 2);
    x.tick(2);
    Due.is("24: over line 7", x.witness(0, 0), 107);
  }

  private static void witnessOfManyTries() {
    BundleLine x = Made.withLine(1, 1, 1);
    x.type(1, 1);
    x.frame();
    for (int i = 0; i < 120; i++) {
      x.tick(1);
      x.fall(0);
      x.rise(0);
    }
    x.tick(2);
    Due.is("24: 121 TRIES", x.witness(0, 0), 12100);
    Due.is("16: lost 120 times", x.lostOn(0, 0), 120);
  }

  private static void check() {
    checkNoSuchFrame();
    checkNotGiven();
    checkBehindOneThatIsNotGiven();
    checkOfAnotherSum();
    checkGoesRound();
  }

  private static int checked(BundleLine x, int frame, int sum) {
    return x.check(frame, sum) ? 1 : 0;
  }

  private static void checkNoSuchFrame() {
    Due.each("25: there is none",
        f -> checked(Made.withTray(1), f, 0), 0, LOWEST, -1, 0, 1, HIGHEST);
    BundleLine x = Made.withTwoFramesGiven();
    Due.each("25: no such frame", f -> checked(x, f, 3200), 0, LOWEST, -1, 2, 3, HIGHEST);
    Due.each("25: no such frame, 0", f -> checked(x, f, 0), 0, LOWEST, -1, 2, 3, HIGHEST);
    Due.each("25: each frame", f -> checked(x, f, 3200), 1, 0, 1);
  }

  private static void checkNotGiven() {
    BundleLine x = Made.withThreeOnAWay();
    int[] any = {LOWEST, NONE, -1, 0, 1, 100, 3200, 99300, HIGHEST};
    Due.each("25: it is not GIVEN", s -> checked(x, 0, s), 0, any);
    x.tick(3);
    Due.each("25: it is not GIVEN yet", s -> checked(x, 0, s), 0, any);
    x.tick(1);
    Due.is("25: it is GIVEN", x.check(0, 99300), true);
  }

  private static void checkBehindOneThatIsNotGiven() {
    BundleLine x = Made.withTwoBehindOneThatIsLost();
    int[] any = {LOWEST, NONE, -1, 0, 100, 200, HIGHEST};
    for (int frame = 0; frame < 3; frame++) {
      int of = frame;
      Due.each("25: not GIVEN, frame " + of, s -> checked(x, of, s), 0, any);
    }
    x.tick(2);
    Due.is("25: frame 0, GIVEN", x.check(0, 200), true);
    Due.is("25: frame 1, GIVEN", x.check(1, 100), true);
    Due.is("25: frame 2, GIVEN", x.check(2, 100), true);
  }

  private static void checkOfAnotherSum() {
    BundleLine x = Made.withTwoFramesGiven();
    Due.is("25: just this one sum", x.check(1, 3200), true);
    int[] others = {LOWEST, -3200, -1, 0, 100, 3199, 3201, HIGHEST};
    Due.each("25: another sum", s -> checked(x, 1, s), 0, others);
  }

  /** Five numbers of 100 stay below the greatest int; six go round, and are below 0 then. */
  private static void checkGoesRound() {
    int[] sums = {100, 3200, 99300, 3078400, 95430500, -1336621696};
    BigInteger v = BigInteger.ZERO;
    for (int many = 1; many <= 40; many++) {
      v = v.multiply(BigInteger.valueOf(31)).add(BigInteger.valueOf(100));
      BundleLine x = Made.withLine(0, 1000, 1);
      x.cut(1);
      Due.frameOfSize(x, many);
      x.tick(2);
      Due.is("25: it goes round with " + many, x.check(0, v.intValue()), true);
      Due.is("25: one bit is another one", x.check(0, v.intValue() ^ LOWEST), false);
      Due.is("25: one more", x.check(0, v.intValue() + 1), false);
      if (many <= sums.length) {
        Due.is("25: worked out for " + many, x.check(0, sums[many - 1]), true);
      }
    }
  }

  private static void status() {
    statusOfAnotherWhat();
    statusOfAFullTray();
  }

  private static void statusOfAnotherWhat() {
    int[] others = {LOWEST, -1, 13, 14, 19, 20, 27, 28, HIGHEST};
    BundleLine x = Scene.made();
    Due.each("26: another what", x::status, NONE, others);
    Due.is("26: the least what", x.status(0), 8);
    Due.is("26: the last before 13", x.status(12), 1);
    Due.is("26: the first from 21 on", x.status(21), 1);
    Due.is("26: the greatest what", x.status(26), 1);
  }

  private static void statusOfAFullTray() {
    BundleLine x = Made.withTray(0);
    Due.is("26: an empty TRAY", x.status(8), 0);
    x.type(1, 1);
    x.grow(4000);
    Due.is("26: a full TRAY", x.status(8), 4000);
    x.frame();
    Due.is("26: an empty TRAY again", x.status(8), 0);
    x.open(0, 1000, 1);
    x.tick(5);
    Due.is("26: bytes of GIVEN frames", x.status(9), 4000);
  }
}
