/**
 * Each sentence of promises 1 to 13 that names an edge has a test of its own here, under the
 * promise's number and the sentence's words: the least and the greatest, and what lies beyond them.
 */
final class CallEdgeTest {
  private static final int NONE = Due.NONE;
  private static final int LOWEST = Due.LOWEST;
  private static final int HIGHEST = Due.HIGHEST;
  private static final int[] KINDS = {0, 1, 2, 3};

  private CallEdgeTest() {}

  public static void main(String[] args) {
    newObjects();
    open();
    lease();
    type();
    grow();
    frame();
    cut();
    room();
    tick();
    lose();
    bend();
    fall();
    rise();
    Due.end();
  }

  // ---- 1: a new object

  /** No lines, nothing sent: whatever was done on another object. */
  private static void newObjects() {
    BundleLine other = Scene.made();
    BundleLine x = new BundleLine();
    int[] row = Due.status(x, 0, 1, 2, 3, 4, 5, 6, 7, 8, 9, 10, 11, 12);
    Due.row("1: status", row, 0, 0, 0, 0, 0, 0, 0, 0, 0, 0, 250, 8000, 0);
    Due.row("1: no REFUSALS", Due.refusals(x), 0, 0, 0, 0, 0, 0);
    Due.is("1: CREDIT", x.credit(), 8000);
    Due.is("1: skew", x.skew(), 0);
    x.type(1, 1);
    x.frame();
    x.room(4000);
    x.cut(1);
    Due.row("1: the other one", Due.status(other, 0, 1, 2, 4, 8, 10, 11), 8, 6, 5, 13, 3, 10, 5000);
  }

  // ---- 2: open

  private static void open() {
    openNoSuchKind();
    openSpeedBelow();
    openSteadySpeedBelow();
    openDelayBelow();
    openSpeedAbove();
    openDelayAbove();
    openTheNinthLine();
  }

  private static void openNoSuchKind() {
    for (int kind : KINDS) {
      BundleLine x = new BundleLine();
      Due.is("2: KIND " + kind, x.open(kind, 250, 1), 0);
      Due.is("2: KIND, asked", x.line(0, 0), kind);
    }
    Due.each("2: no such KIND",
        k -> Made.withLines(0).open(k, 250, 1), -2, LOWEST, -2, -1, 4, 5, HIGHEST);
  }

  private static void openSpeedBelow() {
    for (int kind = 1; kind <= 3; kind++) {
      int of = kind;
      BundleLine x = new BundleLine();
      Due.is("2: speed 1 of KIND " + kind, x.open(kind, 1, 1), 0);
      Due.is("2: speed 1, asked", x.line(0, 1), 1);
      Due.each("2: a speed below 1", n -> Made.withLines(0).open(of, n, 1), -4, LOWEST, -1, 0);
    }
  }

  private static void openSteadySpeedBelow() {
    BundleLine x = new BundleLine();
    Due.is("2: STEADY, speed 250", x.open(0, 250, 1), 0);
    Due.is("2: STEADY, speed 250, asked", x.line(0, 1), 250);
    int[] below = {LOWEST, -1, 0, 1, 249};
    Due.each("2: STEADY below 250", n -> Made.withLines(0).open(0, n, 1), -4, below);
  }

  private static void openDelayBelow() {
    for (int kind : KINDS) {
      BundleLine x = new BundleLine();
      Due.is("2: delay 1 of KIND " + kind, x.open(kind, 250, 1), 0);
      Due.is("2: delay 1, asked", x.line(0, 2), 1);
      Due.each("2: a delay below 1", n -> Made.withLines(0).open(kind, 250, n), -4, LOWEST, -1, 0);
    }
  }

  private static void openSpeedAbove() {
    for (int kind : KINDS) {
      BundleLine x = new BundleLine();
      Due.is("2: speed 1000 of KIND " + kind, x.open(kind, 1000, 1), 0);
      Due.is("2: speed 1000, asked", x.line(0, 1), 1000);
      Due.each("2: a speed above 1000", n -> Made.withLines(0).open(kind, n, 1), -6, 1001, HIGHEST);
    }
  }

  private static void openDelayAbove() {
    for (int kind : KINDS) {
      BundleLine x = new BundleLine();
      Due.is("2: delay 40 of KIND " + kind, x.open(kind, 250, 40), 0);
      Due.is("2: delay 40, asked", x.line(0, 2), 40);
      Due.each("2: a delay above 40", n -> Made.withLines(0).open(kind, 250, n), -6, 41, HIGHEST);
    }
  }

  private static void openTheNinthLine() {
    for (int kind : KINDS) {
      BundleLine x = new BundleLine();
      for (int i = 0; i < 8; i++) {
        Due.is("2: lines have numbers 0 .. 7", x.open(KINDS[i % 4], 250 + i, 1 + i), i);
      }
      Due.is("2: the ninth line, of KIND " + kind, x.open(kind, 250, 1), -6);
      Due.is("2: there are eight", x.status(1), 8);
      for (int i = 0; i < 8; i++) {
        Due.row("2: they are as they were",
            Due.line(x, i, 0, 1, 2, 3), KINDS[i % 4], 250 + i, 1 + i, 1);
      }
    }
  }

  // ---- 3: lease

  private static void lease() {
    leaseNoSuchLine();
    leaseAnotherKind();
    leaseAllowanceBelow();
    leaseSpanBelow();
    leaseAllowanceAbove();
    leaseSpanAbove();
    leaseOfOneThatIsNotUp();
  }

  private static void leaseNoSuchLine() {
    Due.each("3: no lines", n -> Made.withLines(0).lease(n, 250, 1), -1, LOWEST, -1, 0, 1, HIGHEST);
    Due.each("3: three lines", n -> Made.withLines(3).lease(n, 250, 1), -1, LOWEST, -1, 3, HIGHEST);
    Due.each("3: eight lines", n -> Made.withLines(8).lease(n, 250, 1), -1, LOWEST, -1, 8, HIGHEST);
    Due.each("3: eight lines, each one",
        n -> Made.withLines(8).lease(n, 250, 1), 1, 0, 1, 2, 3, 4, 5, 6, 7);
  }

  private static void leaseAnotherKind() {
    Due.each("3: a line of another KIND",
        k -> Made.withLine(k, 250, 1).lease(0, 250, 1), -2, 0, 1, 2);
    BundleLine x = Made.withLine(3, 250, 1);
    Due.row("3: LEASED, at first", Due.line(x, 0, 13, 14), 1000, 4);
    Due.is("3: LEASED", x.lease(0, 250, 1), 1);
  }

  private static void leaseAllowanceBelow() {
    BundleLine x = Made.withLines(1);
    Due.is("3: an allowance of 250", x.lease(0, 250, 20), 1);
    Due.row("3: an allowance of 250, asked", Due.line(x, 0, 13, 14), 250, 20);
    Due.each("3: an allowance below 250", n -> x.lease(0, n, 1), -4, LOWEST, -1, 0, 1, 249);
    Due.row("3: an allowance below 250, asked", Due.line(x, 0, 13, 14), 250, 20);
  }

  private static void leaseSpanBelow() {
    BundleLine x = Made.withLines(1);
    Due.is("3: a span of 1", x.lease(0, 300, 1), 1);
    Due.row("3: a span of 1, asked", Due.line(x, 0, 13, 14), 300, 1);
    Due.each("3: a span below 1", n -> x.lease(0, 400, n), -4, LOWEST, -1, 0);
    Due.row("3: a span below 1, asked", Due.line(x, 0, 13, 14), 300, 1);
  }

  private static void leaseAllowanceAbove() {
    BundleLine x = Made.withLines(1);
    Due.is("3: an allowance of 20000", x.lease(0, 20000, 5), 1);
    Due.row("3: an allowance of 20000, asked", Due.line(x, 0, 13, 14), 20000, 5);
    Due.each("3: an allowance above 20000", n -> x.lease(0, n, 6), -6, 20001, HIGHEST);
    Due.row("3: an allowance above 20000, asked", Due.line(x, 0, 13, 14), 20000, 5);
  }

  private static void leaseSpanAbove() {
    BundleLine x = Made.withLines(1);
    Due.is("3: a span of 20", x.lease(0, 300, 20), 1);
    Due.row("3: a span of 20, asked", Due.line(x, 0, 13, 14), 300, 20);
    Due.each("3: a span above 20", n -> x.lease(0, 400, n), -6, 21, HIGHEST);
    Due.row("3: a span above 20, asked", Due.line(x, 0, 13, 14), 300, 20);
  }

  /** No REFUSAL of lease() is for that. */
  private static void leaseOfOneThatIsNotUp() {
    BundleLine x = Made.withLines(1);
    x.fall(0);
    Due.is("3: it is not UP", x.lease(0, 300, 5), 1);
    Due.row("3: it is not UP, asked", Due.line(x, 0, 3, 13, 14), 0, 300, 5);
    Due.each("3: it is not UP, below", n -> x.lease(0, n, 5), -4, LOWEST, 249);
    x.rise(0);
    Due.row("3: it is UP again, asked", Due.line(x, 0, 3, 13, 14), 1, 300, 5);
    Due.frameOfSize(x, 1000);
    x.tick(5);
    Due.is("3: 300 in 5 ticks", x.line(0, 9), 300);
  }

  // ---- 4: type

  private static void type() {
    typeBelow();
    typeAbove();
    typeMoreThan4000();
    typeTheLowestBytes();
  }

  private static void typeBelow() {
    Due.is("4: n 1", Made.withTray(0).type(7, 1), 1);
    Due.each("4: n below 1", n -> Made.withTray(0).type(7, n), -4, LOWEST, -1, 0);
    Due.each("4: n below 1, a TRAY of 5", n -> Made.withTray(5).type(7, n), -4, LOWEST, -1, 0);
  }

  private static void typeAbove() {
    Due.is("4: n 8", Made.withTray(0).type(7, 8), 8);
    Due.each("4: n above 8", n -> Made.withTray(0).type(7, n), -6, 9, 10, HIGHEST);
    Due.each("4: n above 8, a full TRAY", n -> Made.withTray(4000).type(7, n), -6, 9, HIGHEST);
  }

  private static void typeMoreThan4000() {
    for (int n = 1; n <= 8; n++) {
      BundleLine x = Made.withTray(4000 - n);
      Due.is("4: up to 4000 by " + n, x.type(7, n), 4000);
      Due.is("4: one more", x.type(7, 1), -6);
      Due.is("4: 4000 bytes", x.status(8), 4000);
      BundleLine y = Made.withTray(4001 - n);
      Due.is("4: 4001 by " + n, y.type(7, n), -6);
      Due.is("4: 4001 by " + n + ", as it was", y.status(8), 4001 - n);
    }
  }

  private static void typeTheLowestBytes() {
    long[] words = {0, -1, Long.MIN_VALUE, Long.MAX_VALUE, 0x80817F7E01FF00C3L};
    for (long w : words) {
      for (int n = 1; n <= 8; n++) {
        BundleLine x = Made.withLine(0, 1000, 1);
        x.type(w, n);
        x.frame();
        x.tick(2);
        for (int i = 0; i < n; i++) {
          int due = (int) ((w >> (8 * (n - 1 - i))) & 0xFF);
          Due.is("4: " + w + " by " + n + ", byte " + i, x.got(0, i), due);
        }
        Due.is("4: no more bytes than n", x.got(0, -1), n);
      }
    }
  }

  // ---- 5: grow

  private static void grow() {
    growAnEmptyTray();
    growBelow();
    growAbove();
    growByItsOwn();
  }

  private static void growAnEmptyTray() {
    int[] any = {LOWEST, -1, 0, 1, 4000, 4001, HIGHEST};
    Due.each("5: it is empty", n -> Made.withTray(0).grow(n), -3, any);
    BundleLine x = Made.withTray(3);
    x.frame();
    Due.each("5: it is empty, as it is a FRAME", x::grow, -3, any);
    Due.is("5: one byte", Made.withTray(1).grow(4000), 1);
  }

  private static void growBelow() {
    Due.is("5: to what it has", Made.withTray(5).grow(5), 5);
    Due.each("5: n is below what it has", n -> Made.withTray(5).grow(n), -4, LOWEST, -1, 0, 1, 4);
    Due.is("5: a full TRAY, to what it has", Made.withTray(4000).grow(4000), 4000);
    Due.is("5: n is below what a full TRAY has", Made.withTray(4000).grow(3999), -4);
    BundleLine x = Made.withTray(5);
    x.grow(4);
    Due.is("5: below, it stays", x.status(8), 5);
  }

  private static void growAbove() {
    BundleLine x = Made.withTray(5);
    Due.each("5: n above 4000", x::grow, -6, 4001, HIGHEST);
    Due.is("5: above, it stays", x.status(8), 5);
    Due.is("5: to 4000", x.grow(4000), 5);
    Due.is("5: 4000 bytes", x.status(8), 4000);
    Due.each("5: n above 4000, a full TRAY", x::grow, -6, 4001, HIGHEST);
  }

  private static void growByItsOwn() {
    for (int had = 1; had <= 4; had++) {
      for (int n = had; n <= 13; n++) {
        BundleLine x = Made.withLine(0, 1000, 1);
        x.type(0x11223344, had);
        x.grow(n);
        x.frame();
        x.tick(2);
        int[] own = {0x11, 0x22, 0x33, 0x44};
        for (int i = 0; i < n; i++) {
          int due = own[4 - had + i % had];
          Due.is("5: again and again, " + had + " to " + n + ", byte " + i, x.got(0, i), due);
        }
      }
    }
  }

  // ---- 6: frame

  private static void frame() {
    frameOfAnEmptyTray();
    frameOfOneByteAndOf4000();
    frameIsCut();
    frameAbovePieces();
    frameAbovePiecesEver();
    frameAboveNotGiven();
    frameAboveNotGivenBehindAGreatOne();
    frameAboveFrames();
    frameSums();
  }

  private static void frameOfAnEmptyTray() {
    BundleLine x = Made.withTray(0);
    Due.is("6: it is empty", x.frame(), -3);
    x.type(1, 1);
    Due.is("6: one byte", x.frame(), 0);
    Due.is("6: it is empty then", x.status(8), 0);
    Due.is("6: it is empty again", x.frame(), -3);
    Due.is("6: one frame", x.status(2), 1);
    Due.is("6: one piece", x.status(4), 1);
  }

  private static void frameOfOneByteAndOf4000() {
    BundleLine x = Made.withTray(1);
    Due.is("6: 1 byte", x.frame(), 0);
    Due.row("6: 1 byte, asked", frameRow(x, 0), 1, 0, 1);
    x.type(1, 1);
    x.grow(4000);
    Due.is("6: 4000 bytes", x.frame(), 1);
    Due.row("6: 4000 bytes, asked", frameRow(x, 1), 4000, 1, 16);
    Due.row("6: the least piece", pieceRow(x, 0), 0, 1, 1);
    Due.row("6: the last of 4000", pieceRow(x, 16), 1, 250, 1);
  }

  private static int[] frameRow(BundleLine x, int frame) {
    return new int[] {x.frameOf(frame, 0), x.frameOf(frame, 1), x.frameOf(frame, 2)};
  }

  private static int[] pieceRow(BundleLine x, int piece) {
    return new int[] {x.piece(piece, 1), x.piece(piece, 2), x.piece(piece, 5)};
  }

  /** The last one has what is left: from one byte up to all of CUT. */
  private static void frameIsCut() {
    int[] cuts = {1, 1, 2, 2, 100, 100, 100, 250, 250, 250, 250};
    int[] sizes = {1, 2, 2, 3, 99, 100, 101, 249, 250, 251, 500};
    int[] rows = {1, 2, 1, 2, 1, 1, 2, 1, 1, 2, 2};
    int[] lasts = {1, 1, 2, 1, 99, 100, 1, 249, 250, 1, 250};
    for (int i = 0; i < cuts.length; i++) {
      String name = "6: " + sizes[i] + " by " + cuts[i];
      BundleLine x = Made.withTray(sizes[i]);
      x.cut(cuts[i]);
      x.frame();
      Due.is(name + ", pieces", x.frameOf(0, 2), rows[i]);
      for (int p = 0; p < rows[i] - 1; p++) {
        Due.row(name + ", BODY", pieceRow(x, p), 0, cuts[i], 0);
      }
      Due.row(name + ", LAST", pieceRow(x, rows[i] - 1), 0, lasts[i], 1);
      Due.is(name + ", no piece more", x.piece(rows[i], 2), NONE);
    }
  }

  private static void frameAbovePieces() {
    BundleLine x = Made.withTray(2999);
    x.cut(1);
    x.frame();
    Due.is("6: 2999 pieces", x.status(4), 2999);
    x.type(5, 2);
    Due.is("6: 3001 pieces", x.frame(), -6);
    Due.row("6: 3001 pieces, as it was", Due.status(x, 2, 4, 7, 8), 1, 2999, 2999, 2);
    x.cut(2);
    Due.is("6: 3000 pieces", x.frame(), 1);
    Due.row("6: 3000 pieces, asked", Due.status(x, 2, 4, 7, 8), 2, 3000, 3000, 0);
    Due.row("6: the greatest piece", pieceRow(x, 2999), 1, 2, 1);
    x.type(5, 1);
    Due.is("6: the 3001st piece", x.frame(), -6);
    Due.row("6: the 3001st piece, as it was", Due.status(x, 2, 4, 7, 8), 2, 3000, 3000, 1);

    BundleLine y = Made.withTray(3000);
    y.cut(1);
    Due.is("6: 3000 pieces of one frame", y.frame(), 0);
    BundleLine z = Made.withTray(3001);
    z.cut(1);
    Due.is("6: 3001 pieces of one frame", z.frame(), -6);
  }

  /** Those of GIVEN frames count, too. */
  private static void frameAbovePiecesEver() {
    BundleLine x = Made.withLine(0, 1000, 1);
    x.cut(1);
    Due.frameOfSize(x, 2999);
    Due.is("6: 2999 pieces of a GIVEN frame", x.tick(76), 1);
    x.type(5, 2);
    Due.is("6: 3001 pieces ever", x.frame(), -6);
    Due.row("6: 3001 pieces ever, as it was", Due.status(x, 2, 4, 7, 8), 1, 2999, 0, 2);
    x.cut(2);
    Due.is("6: 3000 pieces ever", x.frame(), 1);
    Due.is("6: 3000 pieces, all GIVEN", x.tick(2), 1);
    x.type(5, 1);
    Due.is("6: the 3001st piece ever", x.frame(), -6);
    Due.row("6: the 3001st piece ever, as it was", Due.status(x, 2, 3, 4, 8), 2, 2, 3000, 1);
  }

  private static void frameAboveNotGiven() {
    BundleLine x = new BundleLine();
    Due.smallFrames(x, 99);
    x.type(1, 1);
    Due.is("6: 99 are not GIVEN", x.frame(), 99);
    x.type(1, 1);
    Due.is("6: 100 are not GIVEN", x.frame(), -6);
    Due.row("6: 100 are not GIVEN, as it was", Due.status(x, 2, 3, 4, 8), 100, 0, 100, 1);
    x.open(1, 1, 1);
    Due.is("6: one is GIVEN", x.tick(2), 1);
    Due.is("6: 99 are not GIVEN again", x.frame(), 100);
    x.type(1, 1);
    Due.is("6: 100 are not GIVEN again", x.frame(), -6);
  }

  /** Frames are counted, neither their pieces nor their bytes. */
  private static void frameAboveNotGivenBehindAGreatOne() {
    BundleLine x = Made.withAGreatFrameGiven();
    Due.smallFrames(x, 100);
    x.type(1, 1);
    Due.is("6: one is GIVEN, 100 are not", x.frame(), -6);
    Due.row("6: one is GIVEN, 100 are not, asked", Due.status(x, 2, 3, 8), 101, 1, 1);
  }

  /** No 512 calls make so many: each one takes a type() and a frame(). */
  private static void frameAboveFrames() {
    BundleLine x = Made.withLine(0, 1000, 1);
    for (int i = 0; i < 10; i++) {
      x.tick(2);
      Due.smallFrames(x, 30);
    }
    x.type(7, 1);
    Due.is("6: the 301st, as some are not GIVEN", x.frame(), -6);
    Due.row("6: some are not GIVEN", Due.status(x, 2, 3, 4, 8), 300, 270, 300, 1);
    x.tick(2);
    Due.row("6: 300 frames", Due.status(x, 2, 3), 300, 300);
    Due.is("6: the 301st", x.frame(), -6);
    Due.row("6: the 301st, as it was", Due.status(x, 2, 3, 4, 8), 300, 300, 300, 1);
    Due.row("21: frames 299 and 300", new int[] {x.frameOf(299, 0), x.frameOf(300, 0)}, 1, NONE);
    Due.row("20: frames 299 and 300", new int[] {x.got(299, 0), x.got(300, 0)}, 29, -1);
    Due.row("24: frames 299 and 300", new int[] {x.witness(299, 0), x.witness(300, 0)}, 100, NONE);
    Due.is("25: frame 299", x.check(299, 100), true);
    Due.is("25: frame 300", x.check(300, 100), false);
  }

  /** Bytes are 0 .. 255, i is from 0 on in each piece. */
  private static void frameSums() {
    BundleLine x = new BundleLine();
    long[] words = {0, 255, 128, 0xFF00, 0x00FF, 0x0101};
    int[] many = {1, 1, 1, 2, 2, 2};
    int[] sums = {0, 255, 128, 255, 510, 3};
    for (int i = 0; i < words.length; i++) {
      x.type(words[i], many[i]);
      x.frame();
      Due.is("15: SUM of " + words[i], x.piece(i, 6), sums[i]);
    }
    x.type(-1, 1);
    x.grow(500);
    x.frame();
    // 255 times (1 + 2 + .. + 250)
    Due.is("15: the greatest SUM", x.piece(6, 6), 8000625);
    Due.is("15: the greatest SUM, the next piece", x.piece(7, 6), 8000625);
  }

  // ---- 7: cut, 8: room

  private static void cut() {
    cutBelow();
    cutAbove();
    cutWhatItWas();
    cutForFramesThatCome();
  }

  private static void cutBelow() {
    BundleLine x = new BundleLine();
    Due.is("7: 1 is the least", x.cut(1), 250);
    Due.is("7: 1, asked", x.status(10), 1);
    Due.each("7: below 1", x::cut, -4, LOWEST, -1, 0);
    Due.is("7: below 1, as it was", x.status(10), 1);
  }

  private static void cutAbove() {
    BundleLine x = new BundleLine();
    x.cut(9);
    Due.is("7: 250 is the greatest", x.cut(250), 9);
    Due.is("7: 250, asked", x.status(10), 250);
    Due.each("7: above 250", x::cut, -6, 251, HIGHEST);
    Due.is("7: above 250, as it was", x.status(10), 250);
  }

  private static void cutWhatItWas() {
    BundleLine x = new BundleLine();
    Due.is("7: 250 at first", x.cut(3), 250);
    x.cut(0);
    x.cut(251);
    Due.is("7: what it was, not what was refused", x.cut(4), 3);
    Due.is("7: what it was, the same again", x.cut(4), 4);
  }

  private static void cutForFramesThatCome() {
    BundleLine x = Made.withTray(5);
    x.cut(5);
    x.frame();
    x.type(1, 5);
    x.cut(1);
    Due.is("7: a frame that was cut stays", x.frameOf(0, 2), 1);
    x.frame();
    Due.is("7: a TRAY that was typed before is cut anew", x.frameOf(1, 2), 5);
  }

  private static void room() {
    roomBelow();
    roomAbove();
    roomWhatItWas();
  }

  private static void roomBelow() {
    BundleLine x = new BundleLine();
    Due.is("8: 4000 is the least", x.room(4000), 8000);
    Due.is("8: 4000, asked", x.status(11), 4000);
    Due.each("8: below 4000", x::room, -4, LOWEST, -1, 0, 3999);
    Due.is("8: below 4000, as it was", x.status(11), 4000);
    Due.is("8: below 4000, CREDIT", x.credit(), 4000);
  }

  private static void roomAbove() {
    BundleLine x = new BundleLine();
    Due.is("8: 20000 is the greatest", x.room(20000), 8000);
    Due.is("8: 20000, asked", x.status(11), 20000);
    Due.each("8: above 20000", x::room, -6, 20001, HIGHEST);
    Due.is("8: above 20000, as it was", x.status(11), 20000);
    Due.is("8: above 20000, CREDIT", x.credit(), 20000);
  }

  private static void roomWhatItWas() {
    BundleLine x = new BundleLine();
    Due.is("8: 8000 at first", x.room(5000), 8000);
    x.room(3999);
    x.room(20001);
    Due.is("8: what it was, not what was refused", x.room(6000), 5000);
    Due.is("8: what it was, the same again", x.room(6000), 6000);
  }

  // ---- 9: tick

  private static void tick() {
    tickBelow();
    tickAbove();
    tickAboveTime();
    tickHowManyWereGiven();
  }

  private static void tickBelow() {
    BundleLine x = Made.withLines(1);
    Due.each("9: n below 1", x::tick, -4, LOWEST, -1, 0);
    Due.is("9: no TIME went", x.status(0), 0);
    Due.is("9: 1", x.tick(1), 0);
    Due.is("9: TIME 1", x.status(0), 1);
  }

  private static void tickAbove() {
    BundleLine x = Made.withLines(1);
    Due.each("9: n above 100", x::tick, -6, 101, 20000, 20001, HIGHEST);
    Due.is("9: no TIME went above", x.status(0), 0);
    Due.is("9: 100", x.tick(100), 0);
    Due.is("9: TIME 100", x.status(0), 100);
  }

  private static void tickAboveTime() {
    BundleLine x = Made.withLines(1);
    for (int i = 0; i < 199; i++) {
      x.tick(100);
    }
    x.tick(99);
    Due.is("9: TIME 19999", x.status(0), 19999);
    Due.each("9: TIME would be above 20000", x::tick, -6, 2, 3, 100);
    Due.is("9: TIME 19999 still", x.status(0), 19999);
    Due.is("9: TIME would be 20000", x.tick(1), 0);
    Due.is("9: TIME 20000", x.status(0), 20000);
    Due.each("9: TIME would be 20001", x::tick, -6, 1, 100);
    Due.is("9: TIME 20000 still", x.status(0), 20000);

    BundleLine y = Made.withLines(1);
    for (int i = 0; i < 199; i++) {
      y.tick(100);
    }
    Due.is("9: TIME 20000 by 100", y.tick(100), 0);
    Due.is("9: TIME 20000 by 100, asked", y.status(0), 20000);
  }

  private static void tickHowManyWereGiven() {
    BundleLine x = Made.withLine(0, 1000, 2);
    Due.smallFrames(x, 3);
    Due.is("9: none was GIVEN", x.tick(2), 0);
    Due.is("9: three were in one", x.tick(1), 3);
    Due.is("9: those of before count not", x.tick(1), 0);
    Due.smallFrames(x, 2);
    x.tick(1);
    Due.smallFrames(x, 4);
    Due.is("9: two and four in three", x.tick(3), 6);
  }

  // ---- 10: lose

  private static void lose() {
    loseNoSuchLine();
    loseAnotherKind();
    loseNothingThere();
    loseTheFirst();
    loseAnEmpty();
  }

  private static void loseNoSuchLine() {
    Due.each("10: no lines", n -> Made.withLines(0).lose(n), -1, LOWEST, -1, 0, 1, HIGHEST);
    Due.each("10: eight lines", n -> Made.withLines(8).lose(n), -1, LOWEST, -1, 8, HIGHEST);
    Due.each("10: eight lines, each one",
        n -> Made.withLines(8).lose(n), -5, 0, 1, 2, 3, 4, 5, 6, 7);
  }

  private static void loseAnotherKind() {
    Due.each("10: a STEADY or SLOW line", k -> Made.withTwoUnderWay(k).lose(0), -2, 0, 1);
    Due.each("10: a SHAKY or LEASED line", k -> Made.withTwoUnderWay(k).lose(0), 0, 2, 3);
  }

  private static void loseNothingThere() {
    for (int kind = 2; kind <= 3; kind++) {
      BundleLine x = Made.withLine(kind, 1, 1);
      Due.is("10: nothing was laid", x.lose(0), -5);
      x.cut(2);
      Due.frameOfSize(x, 2);
      x.tick(1);
      Due.is("10: half of it was sent", x.lose(0), -5);
      x.tick(1);
      Due.is("10: it is UNDER WAY", x.lose(0), 0);
      Due.is("10: it was made to be lost already", x.lose(0), -5);
      BundleLine y = Made.withTwoUnderWay(kind);
      y.tick(1);
      Due.is("10: all came", y.lose(0), -5);
      BundleLine z = Made.withTwoUnderWay(kind);
      z.fall(0);
      Due.is("10: the line is not UP", z.lose(0), -5);
    }
  }

  private static void loseTheFirst() {
    BundleLine x = Made.withTwoUnderWay(2);
    x.bend(0, 0, 1);
    Due.is("10: the first one, though it was bent", x.lose(0), 0);
    Due.is("10: the first that was not made to be lost", x.lose(0), 1);
    Due.is("10: none is left", x.lose(0), -5);
    Due.is("10: marks of the first", x.under(0, 0, 3), 3);
    Due.is("10: marks of the second", x.under(0, 1, 3), 1);
  }

  private static void loseAnEmpty() {
    for (int kind = 2; kind <= 3; kind++) {
      BundleLine x = Made.withEmptyUnderWay(kind);
      Due.is("10: NONE for an EMPTY", x.lose(0), NONE);
      Due.is("10: its mark", x.under(0, 0, 3), 1);
      Due.row("10: that is no REFUSAL", Due.refusals(x), 0, 0, 0, 0, 0, 0);
      Due.is("10: an EMPTY but once", x.lose(0), -5);
    }
  }

  // ---- 11: bend

  private static void bend() {
    bendNoSuchLine();
    bendMaskBelow();
    bendMaskAbove();
    bendNothingThere();
    bendAnEmpty();
    bendNoSuchByte();
    bendTheFirst();
    bendAnyByteByAnyMask();
  }

  private static void bendNoSuchLine() {
    Due.each("11: no lines", n -> Made.withLines(0).bend(n, 0, 1), -1, LOWEST, -1, 0, 1, HIGHEST);
    Due.each("11: eight lines", n -> Made.withLines(8).bend(n, 0, 1), -1, LOWEST, -1, 8, HIGHEST);
    Due.each("11: eight lines, each one",
        n -> Made.withLines(8).bend(n, 0, 1), -5, 0, 1, 2, 3, 4, 5, 6, 7);
  }

  private static void bendMaskBelow() {
    Due.each("11: a mask below 1",
        n -> Made.withTwoUnderWay(0).bend(0, 0, n), -4, LOWEST, -256, -1, 0);
    Due.is("11: a mask of 1", Made.withTwoUnderWay(0).bend(0, 0, 1), 0);
  }

  private static void bendMaskAbove() {
    Due.each("11: a mask above 255",
        n -> Made.withTwoUnderWay(0).bend(0, 0, n), -6, 256, 257, HIGHEST);
    Due.is("11: a mask of 255", Made.withTwoUnderWay(0).bend(0, 0, 255), 0);
  }

  private static void bendNothingThere() {
    for (int kind : KINDS) {
      BundleLine x = Made.withLine(kind, 250, 1);
      Due.is("11: nothing was laid", x.bend(0, 0, 1), -5);
      BundleLine y = Made.withTwoUnderWay(kind);
      y.tick(1);
      Due.is("11: all came", y.bend(0, 0, 1), -5);
      BundleLine z = Made.withTwoUnderWay(kind);
      z.bend(0, 0, 1);
      z.bend(0, 0, 1);
      Due.is("11: all were bent", z.bend(0, 0, 1), -5);
      BundleLine f = Made.withTwoUnderWay(kind);
      f.fall(0);
      Due.is("11: the line is not UP", f.bend(0, 0, 1), -5);
    }
    BundleLine l = Made.withTwoUnderWay(2);
    l.lose(0);
    l.lose(0);
    Due.is("11: all were made to be lost", l.bend(0, 0, 1), -5);
  }

  private static void bendAnEmpty() {
    for (int kind : KINDS) {
      BundleLine x = Made.withEmptyUnderWay(kind);
      Due.each("11: it is an EMPTY", i -> x.bend(0, i, 1), -2, LOWEST, -1, 0, 1, HIGHEST);
      Due.is("11: it is not bent", x.under(0, 0, 3), 0);
    }
  }

  private static void bendNoSuchByte() {
    for (int kind : KINDS) {
      Due.is("11: byte 0 of 2", Made.withTwoUnderWay(kind).bend(0, 0, 1), 0);
      Due.is("11: byte 1 of 2", Made.withTwoUnderWay(kind).bend(0, 1, 1), 0);
      BundleLine x = Made.withTwoUnderWay(kind);
      Due.each("11: no such byte of 2", i -> x.bend(0, i, 1), -3, LOWEST, -1, 2, 3, HIGHEST);
      x.bend(0, 0, 1);
      Due.each("11: no such byte of 1", i -> x.bend(0, i, 1), -3, LOWEST, -1, 1, 2, HIGHEST);
      Due.is("11: byte 0 of 1", x.bend(0, 0, 1), 1);
    }
    BundleLine y = Made.withLine(0, 250, 1);
    Due.frameOfSize(y, 250);
    y.tick(1);
    Due.is("11: byte 250 of 250", y.bend(0, 250, 1), -3);
    Due.is("11: byte 249 of 250", y.bend(0, 249, 1), 0);
  }

  private static void bendTheFirst() {
    BundleLine x = Made.withTwoUnderWay(2);
    x.lose(0);
    Due.is("11: the first that was not made to be lost", x.bend(0, 0, 1), 1);
    Due.is("11: the first was, the second is bent", x.bend(0, 0, 1), -5);
    BundleLine y = Made.withTwoUnderWay(0);
    y.bend(0, 0, 1);
    Due.is("11: the first that was not bent", y.bend(0, 0, 1), 1);
    Due.is("11: marks of the first", y.under(0, 0, 3), 2);
    Due.is("11: marks of the second", y.under(0, 1, 3), 2);
  }

  /** The byte becomes another one, so that the SUM is not as it was, be it 0 or 255 or the mask. */
  private static void bendAnyByteByAnyMask() {
    int[] masks = {1, 2, 127, 128, 254, 255};
    int[] bytes = {0, 1, 127, 128, 255};
    for (int mask : masks) {
      for (int b : bytes) {
        for (int i = 0; i < 2; i++) {
          BundleLine x = Made.withLine(0, 250, 1);
          x.type(b * 257, 2);
          x.frame();
          x.tick(1);
          x.bend(0, i, mask);
          x.tick(1);
          Due.is("11: " + b + " by " + mask + " is refused", x.line(0, 12), 1);
          Due.is("11: " + b + " by " + mask + " is not THERE", x.status(5), 0);
          x.tick(4);
          Due.is("11: it comes as it was cut", x.got(0, i), b);
        }
      }
    }
  }

  // ---- 12: fall, 13: rise

  private static void fall() {
    fallNoSuchLine();
    fallNotUp();
    fallWithNothing();
    fallWithAFullQueue();
    fallWithAllUnderWay();
    fallWithLostOnes();
    fallWithEmpties();
    fallOfWhatWasHeard();
    fallKeepsTheRest();
  }

  private static void fallNoSuchLine() {
    Due.each("12: no lines", n -> Made.withLines(0).fall(n), -1, LOWEST, -1, 0, 1, HIGHEST);
    Due.each("12: eight lines", n -> Made.withLines(8).fall(n), -1, LOWEST, -1, 8, HIGHEST);
    Due.each("12: eight lines, each one",
        n -> Made.withLines(8).fall(n), 0, 0, 1, 2, 3, 4, 5, 6, 7);
  }

  private static void fallNotUp() {
    for (int kind : KINDS) {
      BundleLine x = Made.withLine(kind, 250, 1);
      Due.is("12: UP at first", x.line(0, 3), 1);
      Due.is("12: it falls", x.fall(0), 0);
      Due.is("12: not UP", x.line(0, 3), 0);
      Due.is("12: it is not UP", x.fall(0), -5);
      x.rise(0);
      Due.is("12: it falls again", x.fall(0), 0);
    }
  }

  private static void fallWithNothing() {
    BundleLine x = Made.withLine(1, 1, 1);
    Due.frameOfSize(x, 9);
    Due.is("12: nothing was laid", x.fall(0), 0);
    Due.is("12: NEW ones stay NEW", x.piece(0, 0), 0);
    Due.is("12: none LOST", x.status(6), 0);
  }

  private static void fallWithAFullQueue() {
    BundleLine x = Made.withLine(1, 1, 1);
    x.cut(2);
    Due.frameOfSize(x, 82);
    x.tick(1);
    Due.row("12: a full QUEUE", Due.line(x, 0, 4, 5, 6, 7, 8), 40, 79, 0, 0, 0);
    Due.is("12: forty are LOST", x.fall(0), 40);
    Due.row("12: an empty QUEUE", Due.line(x, 0, 4, 5, 6, 7, 8, 10), 0, 0, 0, 0, 0, 40);
    Due.row("12: one is NEW still", Due.status(x, 6, 7), 40, 1);
    Due.is("12: the first of the QUEUE", x.lostOn(0, 0), 1);
    Due.is("12: the last of the QUEUE", x.lostOn(39, 0), 1);
    Due.is("12: the NEW one", x.lostOn(40, 0), 0);
    x.rise(0);
    x.tick(1);
    Due.row("12: nothing of the first was sent", Due.line(x, 0, 4, 5, 7), 40, 79, 0);
  }

  private static void fallWithAllUnderWay() {
    BundleLine x = Made.withLine(1, 1000, 40);
    x.cut(1);
    Due.frameOfSize(x, 200);
    x.tick(6);
    Due.row("12: all UNDER WAY", Due.line(x, 0, 4, 6, 7, 8), 0, 200, 200, 0);
    Due.is("12: two hundred are LOST", x.fall(0), 200);
    Due.row("12: none UNDER WAY", Due.line(x, 0, 4, 6, 7, 8, 10), 0, 0, 200, 200, 200);
    Due.is("12: the first of them", x.lostOn(0, 0), 1);
    Due.is("12: the last of them", x.lostOn(199, 0), 1);
    x.tick(40);
    Due.is("12: none comes any more", x.status(5), 0);
  }

  /** Those with counts from SEEN on that are no more, but not known to be lost. */
  private static void fallWithLostOnes() {
    BundleLine x = Made.withLine(2, 2, 1);
    x.cut(1);
    Due.frameOfSize(x, 4);
    x.tick(1);
    x.lose(0);
    x.bend(0, 0, 1);
    x.tick(1);
    x.lose(0);
    Due.row("12: 0 and 1 are no more", Due.line(x, 0, 4, 6, 7, 8, 10, 12), 0, 2, 4, 0, 0, 1);
    Due.is("12: each of the four but once", x.fall(0), 4);
    Due.row("12: after it", Due.line(x, 0, 4, 6, 7, 8, 10, 12), 0, 0, 4, 4, 4, 1);
    for (int p = 0; p < 4; p++) {
      Due.is("12: lost once, piece " + p, x.lostOn(p, 0), 1);
      Due.is("12: LOST, piece " + p, x.piece(p, 0), 2);
    }
  }

  private static void fallWithEmpties() {
    BundleLine x = Made.withEmptyUnderWay(2);
    Due.row("12: an EMPTY UNDER WAY", Due.line(x, 0, 4, 6, 7, 8, 11), 0, 1, 2, 0, 1);
    Due.is("12: the piece ahead of it, not the EMPTY", x.fall(0), 1);
    Due.row("12: it is no more", Due.line(x, 0, 4, 6, 7, 8, 10, 11), 0, 0, 2, 2, 1, 1);

    BundleLine y = Made.withTwoUnderWay(0);
    y.bend(0, 0, 1);
    y.bend(0, 0, 1);
    y.tick(1);
    Due.row("12: an EMPTY in the QUEUE", Due.line(y, 0, 4, 5, 6, 8), 1, 1, 0, 0);
    Due.is("12: the two ahead of it, not the EMPTY", y.fall(0), 2);
    Due.row("12: it is not there any more", Due.line(y, 0, 4, 5, 7, 8, 10), 0, 0, 2, 2, 2);
    Due.is("12: how often EMPTIES were laid stays", y.line(0, 11), 1);
  }

  private static void fallOfWhatWasHeard() {
    BundleLine x = Made.withLine(2, 1, 1);
    x.cut(1);
    Due.frameOfSize(x, 3);
    x.tick(1);
    x.lose(0);
    x.tick(2);
    // 0 is LOST, as 1 came; 1 is THERE, 2 is UNDER WAY.
    Due.row("12: before", new int[] {x.piece(0, 0), x.piece(1, 0), x.piece(2, 0)}, 2, 3, 1);
    Due.is("12: LOST by that is 2 alone", x.fall(0), 1);
    Due.row("12: how often", new int[] {x.lostOn(0, 0), x.lostOn(1, 0), x.lostOn(2, 0)}, 1, 0, 1);
    Due.is("12: what is THERE stays so", x.piece(1, 0), 3);
    Due.is("12: how often in all", x.line(0, 10), 2);
  }

  /** What the document doesn't name stays as it was; other lines go on. */
  private static void fallKeepsTheRest() {
    BundleLine x = Made.withLine(3, 10, 2);
    x.lease(0, 300, 7);
    x.open(1, 10, 2);
    x.cut(10);
    Due.frameOfSize(x, 20);
    x.tick(1);
    Due.is("12: one of two", x.fall(0), 1);
    Due.row("12: line 0",
        Due.line(x, 0, 0, 1, 2, 7, 9, 11, 12, 13, 14), 3, 10, 2, 1, 10, 0, 0, 300, 7);
    Due.row("12: line 1", Due.line(x, 1, 3, 6, 7, 8, 10), 1, 1, 1, 0, 0);
    x.tick(2);
    Due.is("12: the other one comes", x.piece(1, 0), 3);
    x.rise(0);
    Due.row("13: line 0", Due.line(x, 0, 3, 7, 8, 9, 10, 13, 14), 1, 1, 1, 10, 1, 300, 7);
  }

  private static void rise() {
    riseNoSuchLine();
    riseWhenUp();
    riseOfEachLine();
  }

  private static void riseNoSuchLine() {
    Due.each("13: no lines", n -> Made.withLines(0).rise(n), -1, LOWEST, -1, 0, 1, HIGHEST);
    Due.each("13: eight lines", n -> Made.withLines(8).rise(n), -1, LOWEST, -1, 8, HIGHEST);
  }

  private static void riseWhenUp() {
    Due.each("13: it is UP", n -> Made.withLines(8).rise(n), -5, 0, 1, 2, 3, 4, 5, 6, 7);
    BundleLine x = Made.withLines(1);
    x.fall(0);
    Due.is("13: it is not UP", x.rise(0), 1);
    Due.is("13: it is UP again", x.rise(0), -5);
  }

  private static void riseOfEachLine() {
    for (int n = 0; n < 8; n++) {
      BundleLine x = Made.withLines(8);
      x.fall(n);
      for (int other = 0; other < 8; other++) {
        Due.is("13: only the one that fell", x.rise(other), other == n ? 1 : -5);
      }
      Due.is("13: UP again", x.line(n, 3), 1);
    }
  }
}
