/** Each promise of the document, with answers that were worked out by hand from its words. */
final class PromiseTest {
  private static final int NONE = Due.NONE;
  private static final int LOWEST = Due.LOWEST;
  private static final int HIGHEST = Due.HIGHEST;

  private PromiseTest() {}

  public static void main(String[] args) {
    newObject();
    open();
    lease();
    type();
    grow();
    frame();
    frameLimits();
    cut();
    room();
    tick();
    lose();
    bend();
    bendOrder();
    fall();
    fallForgetsWhatWasSent();
    rise();
    line();
    piece();
    lostOn();
    queued();
    under();
    waits();
    got();
    gotOfTheLatest();
    frameOf();
    credit();
    skew();
    witness();
    check();
    status();
    refusalsInTheirOrder();
    Due.end();
  }

  private static int[] lineRow(BundleLine x, int line) {
    return Due.line(x, line, 3, 4, 5, 6, 7, 8, 9, 10, 11, 12);
  }

  private static void newObject() {
    BundleLine x = new BundleLine();
    int[] row = Due.status(x, 0, 1, 2, 3, 4, 5, 6, 7, 8, 9, 10, 11, 12);
    Due.row("1: status", row, 0, 0, 0, 0, 0, 0, 0, 0, 0, 0, 250, 8000, 0);
    Due.row("1: refusals", Due.refusals(x), 0, 0, 0, 0, 0, 0);
    Due.is("1: line", x.line(0, 0), NONE);
    Due.is("1: piece", x.piece(0, 0), NONE);
    Due.is("1: frameOf", x.frameOf(0, 0), NONE);
    Due.is("1: waits", x.waits(0), NONE);
    Due.is("1: credit", x.credit(), 8000);
    Due.is("1: skew", x.skew(), 0);
    Due.is("1: tick", x.tick(3), 0);
    Due.is("1: another object", new BundleLine().status(0), 0);
  }

  private static void open() {
    BundleLine x = new BundleLine();
    Due.is("2: SLOW, the least", x.open(1, 1, 1), 0);
    Due.is("2: STEADY, the least", x.open(0, 250, 1), 1);
    Due.is("2: SHAKY, the greatest", x.open(2, 1000, 40), 2);
    Due.is("2: LEASED", x.open(3, 7, 9), 3);
    Due.is("2: kind -1", x.open(-1, 100, 5), -2);
    Due.is("2: kind 4", x.open(4, 0, 0), -2);
    Due.is("2: kind, lowest", x.open(LOWEST, 100, 5), -2);
    Due.is("2: STEADY below 250", x.open(0, 249, 5), -4);
    Due.is("2: speed 0", x.open(1, 0, 5), -4);
    Due.is("2: delay 0", x.open(1, 1, 0), -4);
    Due.is("2: delay 0, speed above", x.open(1, 1001, 0), -4);
    Due.is("2: speed above", x.open(3, 1001, 5), -6);
    Due.is("2: delay above", x.open(3, 1000, 41), -6);
    Due.is("2: highest", x.open(0, HIGHEST, HIGHEST), -6);
    for (int i = 4; i < 8; i++) {
      Due.is("2: up to eight", x.open(0, 1000, 1), i);
    }
    Due.is("2: the ninth", x.open(0, 1000, 1), -6);
    Due.is("2: the ninth with speed 0", x.open(1, 0, 1), -4);
    Due.is("2: the ninth with kind 9", x.open(9, 0, 1), -2);
    Due.row("2: refusals", Due.refusals(x), 0, 4, 0, 5, 0, 4);
    Due.is("2: lines", x.status(1), 8);
    Due.is("2: no line 8 to ask", x.line(8, 0), NONE);
    Due.is("2: no line 8 to fall", x.fall(8), -1);
  }

  private static void lease() {
    BundleLine x = new BundleLine();
    x.open(3, 1000, 1);
    x.open(2, 1000, 1);
    Due.row("3: at first", Due.line(x, 0, 13, 14), 1000, 4);
    Due.is("3: line -1", x.lease(-1, 0, 0), -1);
    Due.is("3: line 2", x.lease(2, 0, 0), -1);
    Due.is("3: SHAKY", x.lease(1, 0, 0), -2);
    Due.is("3: allowance 249", x.lease(0, 249, 21), -4);
    Due.is("3: span 0", x.lease(0, 20001, 0), -4);
    Due.is("3: allowance 20001", x.lease(0, 20001, 1), -6);
    Due.is("3: span 21", x.lease(0, 250, 21), -6);
    Due.row("3: not changed", Due.line(x, 0, 13, 14), 1000, 4);
    Due.is("3: the greatest", x.lease(0, 20000, 20), 1);
    Due.row("3: the greatest", Due.line(x, 0, 13, 14), 20000, 20);
    Due.is("3: the least", x.lease(0, 250, 1), 1);
    Due.row("3: the least", Due.line(x, 0, 13, 14), 250, 1);
    Due.row("3: of others", Due.line(x, 1, 13, 14), 0, 0);
    Due.row("3: refusals", Due.refusals(x), 2, 1, 0, 2, 0, 2);
  }

  private static void type() {
    BundleLine x = new BundleLine();
    x.open(0, 1000, 1);
    Due.is("4: n 0", x.type(1, 0), -4);
    Due.is("4: n lowest", x.type(1, LOWEST), -4);
    Due.is("4: n 9", x.type(1, 9), -6);
    Due.is("4: n highest", x.type(1, HIGHEST), -6);
    Due.is("4: 8 bytes", x.type(0x0102030405060708L, 8), 8);
    Due.is("4: 3 lowest bytes", x.type(0x1122334455FF8001L, 3), 11);
    Due.is("4: 1 of -1", x.type(-1, 1), 12);
    x.frame();
    x.tick(2);
    int[] want = {1, 2, 3, 4, 5, 6, 7, 8, 255, 128, 1, 255};
    for (int i = 0; i < want.length; i++) {
      Due.is("4: byte " + i, x.got(0, i), want[i]);
    }
    x.type(5, 1);
    x.grow(3993);
    Due.is("4: 4001 bytes", x.type(0, 8), -6);
    Due.is("4: 4000 bytes", x.type(0, 7), 4000);
    Due.is("4: full", x.type(0, 1), -6);
    Due.is("4: full, n 0", x.type(0, 0), -4);
    Due.is("4: as it was", x.status(8), 4000);
    Due.row("4: refusals", Due.refusals(x), 0, 0, 0, 3, 0, 4);
  }

  private static void grow() {
    BundleLine x = new BundleLine();
    x.open(0, 1000, 1);
    Due.is("5: empty", x.grow(0), -3);
    Due.is("5: empty, above", x.grow(4001), -3);
    x.type(0x010203, 3);
    Due.is("5: below", x.grow(2), -4);
    Due.is("5: lowest", x.grow(LOWEST), -4);
    Due.is("5: above", x.grow(4001), -6);
    Due.is("5: the same", x.grow(3), 3);
    Due.is("5: to 8", x.grow(8), 3);
    x.type(9, 1);
    Due.is("5: to 20", x.grow(20), 9);
    x.frame();
    x.tick(2);
    int[] want = {1, 2, 3, 1, 2, 3, 1, 2, 9, 1, 2, 3, 1, 2, 3, 1, 2, 9, 1, 2};
    for (int i = 0; i < want.length; i++) {
      Due.is("5: byte " + i, x.got(0, i), want[i]);
    }
    x.type(1, 1);
    Due.is("5: to 4000", x.grow(4000), 1);
    Due.is("5: all 4000", x.status(8), 4000);
    Due.row("5: refusals", Due.refusals(x), 0, 0, 2, 2, 0, 1);
  }

  private static void frame() {
    BundleLine x = new BundleLine();
    Due.is("6: empty", x.frame(), -3);
    x.type(7, 1);
    Due.is("6: one byte", x.frame(), 0);
    Due.is("6: empty again", x.frame(), -3);
    Due.is("6: TRAY", x.status(8), 0);
    Due.is("6: 501 bytes", Due.frameOfSize(x, 501), 1);
    Due.is("6: 500 bytes", Due.frameOfSize(x, 500), 2);
    Due.is("6: pieces", x.status(4), 6);
    int[] sizes = {1, 250, 250, 1, 250, 250};
    int[] lasts = {1, 0, 0, 1, 0, 1};
    for (int i = 0; i < sizes.length; i++) {
      Due.is("6: bytes of piece " + i, x.piece(i, 2), sizes[i]);
      Due.is("6: LAST of piece " + i, x.piece(i, 5), lasts[i]);
    }
    Due.is("6: NEW", x.status(7), 6);
    Due.row("6: refusals", Due.refusals(x), 0, 0, 2, 0, 0, 0);
  }

  private static void frameLimits() {
    BundleLine x = new BundleLine();
    for (int i = 0; i < 100; i++) {
      x.type(i, 1);
      Due.is("6: not GIVEN " + i, x.frame(), i);
    }
    x.type(1, 1);
    Due.is("6: 100 are not GIVEN", x.frame(), -6);
    x.open(0, 1000, 1);
    Due.is("6: 40 of 100", x.tick(2), 40);
    Due.is("6: TRAY is as it was", x.status(8), 1);
    for (int i = 100; i < 300; i++) {
      if (x.status(2) - x.status(3) > 90) {
        x.tick(4);
      }
      Due.is("6: up to 300", x.frame(), i);
      x.type(1, 1);
    }
    x.tick(4);
    Due.is("6: the 301st", x.frame(), -6);
    Due.is("6: no frame 300 to ask", x.frameOf(300, 0), NONE);
    Due.is("6: no frame 300 that came", x.got(300, 0), -1);

    BundleLine y = new BundleLine();
    y.cut(1);
    Due.frameOfSize(y, 2999);
    y.type(1, 2);
    Due.is("6: 3001 pieces", y.frame(), -6);
    y.cut(2);
    Due.is("6: 3000 pieces", y.frame(), 1);
    y.type(1, 1);
    Due.is("6: the 3001st piece", y.frame(), -6);
    Due.row("6: refusals of y", Due.refusals(y), 0, 0, 0, 0, 0, 2);
    Due.is("6: no piece 3000 to ask", y.piece(3000, 0), NONE);
  }

  private static void cut() {
    BundleLine x = new BundleLine();
    Due.is("7: 0", x.cut(0), -4);
    Due.is("7: 251", x.cut(251), -6);
    Due.is("7: 1", x.cut(1), 250);
    Due.is("7: 100", x.cut(100), 1);
    Due.frameOfSize(x, 250);
    Due.is("7: 250", x.cut(250), 100);
    Due.is("7: pieces", x.status(4), 3);
    Due.is("7: a piece that was cut before", x.piece(0, 2), 100);
    Due.is("7: the last one", x.piece(2, 2), 50);
    Due.is("7: CUT", x.status(10), 250);
  }

  private static void room() {
    BundleLine x = new BundleLine();
    Due.is("8: 3999", x.room(3999), -4);
    Due.is("8: 20001", x.room(20001), -6);
    Due.is("8: 20000", x.room(20000), 8000);
    Due.is("8: CREDIT", x.credit(), 20000);
    x.open(1, 1, 1);
    Due.frameOfSize(x, 4000);
    Due.frameOfSize(x, 4000);
    x.tick(1);
    Due.is("8: 4000", x.room(4000), 20000);
    Due.is("8: CREDIT below 0", x.credit(), -4000);
    Due.is("8: ROOM", x.status(11), 4000);
  }

  private static void tick() {
    BundleLine x = new BundleLine();
    x.open(0, 1000, 1);
    Due.is("9: 0", x.tick(0), -4);
    Due.is("9: 101", x.tick(101), -6);
    Due.is("9: highest", x.tick(HIGHEST), -6);
    Due.is("9: no TIME went", x.status(0), 0);
    x.type(1, 1);
    x.frame();
    x.type(2, 1);
    x.frame();
    Due.is("9: both", x.tick(2), 2);
    Due.is("9: none more", x.tick(98), 0);
    for (int i = 1; i < 200; i++) {
      x.tick(100);
    }
    Due.is("9: TIME", x.status(0), 20000);
    Due.is("9: above 20000", x.tick(1), -6);
    Due.is("9: n 0 then", x.tick(0), -4);
    Due.row("9: refusals", Due.refusals(x), 0, 0, 0, 2, 0, 3);

    BundleLine y = new BundleLine();
    y.tick(1);
    for (int i = 0; i < 199; i++) {
      y.tick(100);
    }
    Due.is("9: 20001", y.tick(100), -6);
    Due.is("9: 20000", y.tick(99), 0);
  }

  private static void lose() {
    BundleLine x = new BundleLine();
    x.open(2, 500, 3);
    x.open(1, 500, 3);
    x.open(0, 500, 3);
    x.open(3, 500, 3);
    Due.is("10: line -1", x.lose(-1), -1);
    Due.is("10: line 4", x.lose(4), -1);
    Due.is("10: SLOW", x.lose(1), -2);
    Due.is("10: STEADY", x.lose(2), -2);
    Due.is("10: SHAKY, nothing", x.lose(0), -5);
    Due.is("10: LEASED, nothing", x.lose(3), -5);
    x.fall(1);
    x.fall(2);
    x.fall(3);
    Due.frameOfSize(x, 500);
    x.tick(1);
    Due.is("10: the first", x.lose(0), 0);
    Due.is("10: the second", x.lose(0), 1);
    Due.is("10: no third", x.lose(0), -5);
    Due.is("10: a mark", x.under(0, 1, 3), 1);
    x.tick(3);
    Due.row("10: all lost, an EMPTY", lineRow(x, 0), 1, 1, 1, 0, 2, 0, 500, 0, 1, 0);
    x.tick(1);
    Due.is("10: an EMPTY", x.lose(0), NONE);
    Due.is("10: not twice", x.lose(0), -5);
    x.tick(3);
    Due.row("10: another EMPTY", lineRow(x, 0), 1, 1, 1, 0, 3, 0, 501, 0, 2, 0);
    x.tick(4);
    Due.row("10: heard", lineRow(x, 0), 1, 0, 0, 0, 4, 4, 502, 2, 2, 0);
    Due.is("10: LOST now", x.status(6), 2);
    Due.is("10: it goes again", x.tick(4), 1);
    Due.row("10: refusals", Due.refusals(x), 2, 2, 0, 0, 4, 0);
  }

  private static void bend() {
    BundleLine x = new BundleLine();
    x.open(0, 1000, 2);
    Due.frameOfSize(x, 600);
    x.tick(1);
    Due.is("11: the first", x.bend(0, 249, 255), 0);
    Due.is("11: the second", x.bend(0, 0, 1), 1);
    Due.is("11: the third has 100 bytes", x.bend(0, 100, 1), -3);
    Due.is("11: byte -1", x.bend(0, -1, 1), -3);
    Due.is("11: byte highest", x.bend(0, HIGHEST, 1), -3);
    Due.row("11: refusals of BEYOND", Due.refusals(x), 0, 0, 3, 0, 0, 0);
    Due.is("11: marks of the first", x.under(0, 0, 3), 2);
    Due.is("11: SUM stays as it was cut", x.piece(1, 6), sumOf123(250, 250));
    x.tick(2);
    Due.row("11: refused", lineRow(x, 0), 1, 0, 0, 0, 3, 3, 600, 2, 0, 2);
    Due.is("11: states", x.status(6), 2);
    Due.is("11: again", x.tick(3), 1);
    for (int i = 0; i < 600; i += 2) {
      Due.is("11: byte " + i, x.got(0, i), 1 + i % 3);
    }
  }

  /** Of the bytes 1, 2, 3, 1, 2, 3 .. of a frame. */
  private static int sumOf123(int from, int size) {
    int sum = 0;
    for (int i = 0; i < size; i++) {
      sum += (1 + (from + i) % 3) * (i + 1);
    }
    return sum;
  }

  private static void bendOrder() {
    BundleLine x = new BundleLine();
    x.open(2, 1000, 1);
    Due.is("11: line 1", x.bend(1, -1, 0), -1);
    Due.is("11: mask 0, nothing there", x.bend(0, -1, 0), -4);
    Due.is("11: mask 256, nothing there", x.bend(0, -1, 256), -6);
    Due.is("11: nothing there", x.bend(0, -1, 1), -5);
    x.type(1, 1);
    x.frame();
    x.tick(1);
    Due.is("11: lost first", x.lose(0), 0);
    Due.is("11: not a lost one", x.bend(0, 0, 1), -5);
    x.tick(2);
    Due.is("11: an EMPTY", x.bend(0, -1, 1), -2);
    Due.is("11: an EMPTY, mask 0", x.bend(0, 0, 0), -4);
    Due.is("11: an EMPTY, mask 256", x.bend(0, 0, 256), -6);
    x.tick(2);
    Due.is("11: bent", x.bend(0, 0, 255), 0);
    Due.is("11: not twice", x.bend(0, 0, 255), -5);
    Due.is("11: bent, then lost", x.lose(0), 0);
    Due.is("11: both marks", x.under(0, 0, 3), 3);
    x.tick(1);
    Due.is("11: one that is lost is not refused", x.line(0, 12), 0);
    Due.row("11: refusals", Due.refusals(x), 1, 1, 0, 2, 3, 2);
  }

  private static void fall() {
    BundleLine x = new BundleLine();
    Due.is("12: no line", x.fall(0), -1);
    x.open(2, 100, 3);
    x.cut(50);
    Due.frameOfSize(x, 425);
    x.tick(1);
    x.lose(0);
    x.tick(3);
    // At TIME 4: 0 was made to be lost, 1 came, 2 .. 7 are UNDER WAY, 8 waits.
    Due.row("12: before", lineRow(x, 0), 1, 1, 25, 6, 8, 2, 400, 1, 0, 0);
    x.type(1, 1);
    x.grow(75);
    x.frame();
    x.lose(0);
    x.lose(0);
    x.bend(0, 0, 1);
    // At TIME 5: 8, 0 (that was LOST) and 25 bytes of 9 were sent, 10 waits, 2 and 3 are no more.
    x.tick(1);
    Due.row("12: at TIME 5", lineRow(x, 0), 1, 2, 50, 6, 10, 2, 500, 1, 0, 0);
    Due.is("12: how many", x.fall(0), 10);
    Due.row("12: after", lineRow(x, 0), 0, 0, 0, 0, 10, 10, 500, 11, 0, 0);
    Due.is("12: LOST", x.status(6), 10);
    Due.is("12: not UP", x.fall(0), -5);
    Due.is("12: lost twice", x.lostOn(0, 0), 2);
    Due.is("12: never lost", x.lostOn(1, 0), 0);
    Due.is("12: lost in the QUEUE", x.lostOn(10, 0), 1);
    Due.is("12: nothing goes", x.tick(5), 0);
    Due.row("12: later", lineRow(x, 0), 0, 0, 0, 0, 10, 10, 500, 11, 0, 0);
    Due.row("12: refusals", Due.refusals(x), 1, 0, 0, 0, 1, 0);
  }

  private static void fallForgetsWhatWasSent() {
    BundleLine x = new BundleLine();
    x.open(2, 10, 1);
    Due.frameOfSize(x, 15);
    x.tick(1);
    Due.is("12: 5 wait", x.line(0, 5), 5);
    Due.is("12: one", x.fall(0), 1);
    x.rise(0);
    x.tick(1);
    Due.row("12: from its first byte", lineRow(x, 0), 1, 1, 5, 0, 0, 0, 20, 1, 0, 0);
    x.tick(1);
    x.lose(0);
    x.tick(1);
    Due.is("12: an EMPTY waits", x.queued(0, 0), -2);
    Due.is("12: EMPTIES don't count, the lost piece does", x.fall(0), 1);
    Due.row("12: no EMPTY any more", lineRow(x, 0), 0, 0, 0, 0, 1, 1, 25, 2, 1, 0);
    x.rise(0);
    Due.is("12: it goes again", x.tick(3), 1);
    Due.is("12: thrice", x.piece(0, 3), 3);
  }

  private static void rise() {
    BundleLine x = new BundleLine();
    Due.is("13: no line", x.rise(0), -1);
    x.open(0, 250, 1);
    Due.is("13: UP", x.rise(0), -5);
    x.fall(0);
    x.type(1, 1);
    x.frame();
    x.tick(3);
    Due.is("13: NEW", x.status(7), 1);
    Due.is("13: UP again", x.rise(0), 1);
    Due.is("13: UP", x.line(0, 3), 1);
    Due.is("13: it goes", x.tick(2), 1);
    Due.row("13: refusals", Due.refusals(x), 1, 0, 0, 0, 1, 0);
  }

  private static void line() {
    BundleLine x = new BundleLine();
    x.open(3, 30, 2);
    x.open(1, 20, 1);
    x.cut(50);
    Due.frameOfSize(x, 120);
    x.tick(2);
    int[] row = Due.line(x, 0, -1, 0, 1, 2, 3, 4, 5, 6, 7, 8, 9, 10, 11, 12, 13, 14, 15);
    // Line 0 has 0 (2 ticks against 3), then 2 (70 bytes: 3 ticks; line 1 has 50 + 20: 4 ticks).
    Due.row("14: line 0", row, NONE, 3, 30, 2, 1, 1, 10, 1, 1, 0, 60, 0, 0, 0, 1000, 4, NONE);
    row = Due.line(x, 1, -1, 0, 1, 2, 3, 4, 5, 6, 7, 8, 9, 10, 11, 12, 13, 14, 15);
    Due.row("14: line 1", row, NONE, 1, 20, 1, 1, 1, 10, 0, 0, 0, 40, 0, 0, 0, 0, 0, NONE);
    Due.is("14: line -1", x.line(-1, 0), NONE);
    Due.is("14: line 2", x.line(2, 0), NONE);
    Due.is("14: lowest", x.line(LOWEST, LOWEST), NONE);
    Due.row("14: no refusals", Due.refusals(x), 0, 0, 0, 0, 0, 0);
  }

  private static void piece() {
    BundleLine x = new BundleLine();
    x.cut(3);
    x.type(0xFF0102FEL, 4);
    x.frame();
    x.type(4, 1);
    x.frame();
    int[][] want = {
      {NONE, 0, 0, 3, 0, NONE, 0, 255 + 2 + 6, NONE},
      {NONE, 0, 0, 1, 0, NONE, 1, 254, NONE},
      {NONE, 0, 1, 1, 0, NONE, 1, 4, NONE}
    };
    for (int p = 0; p < 3; p++) {
      Due.row("15: piece " + p, pieceRow(x, p), want[p]);
    }
    x.open(2, 4, 1);
    x.tick(1);
    x.lose(0);
    x.lose(0);
    Due.row("15: LAID", pieceRow(x, 0), NONE, 1, 0, 3, 1, 0, 0, 263, NONE);
    x.tick(1);
    Due.row("15: LAID, lost and not known", pieceRow(x, 0), NONE, 1, 0, 3, 1, 0, 0, 263, NONE);
    x.tick(1);
    Due.row("15: LOST", pieceRow(x, 0), NONE, 2, 0, 3, 1, 0, 0, 263, NONE);
    Due.row("15: THERE", pieceRow(x, 2), NONE, 3, 1, 1, 1, 0, 1, 4, NONE);
    x.tick(2);
    Due.row("15: THERE at the second try", pieceRow(x, 0), NONE, 3, 0, 3, 2, 0, 0, 263, NONE);
    Due.is("15: piece -1", x.piece(-1, 0), NONE);
    Due.is("15: piece 3", x.piece(3, 0), NONE);
    Due.is("15: lowest", x.piece(LOWEST, LOWEST), NONE);
  }

  private static int[] pieceRow(BundleLine x, int piece) {
    int[] row = new int[9];
    for (int what = -1; what < 8; what++) {
      row[what + 1] = x.piece(piece, what);
    }
    return row;
  }

  private static void lostOn() {
    BundleLine x = new BundleLine();
    x.open(1, 100, 1);
    x.type(1, 1);
    x.frame();
    x.tick(1);
    x.fall(0);
    x.open(1, 1, 1);
    x.rise(0);
    Due.is("16: on line 0", x.lostOn(0, 0), 1);
    Due.is("16: on line 1", x.lostOn(0, 1), 0);
    x.tick(1);
    x.fall(1);
    Due.is("16: then on line 1", x.lostOn(0, 1), 1);
    Due.is("16: piece -1", x.lostOn(-1, 0), NONE);
    Due.is("16: piece 1", x.lostOn(1, 0), NONE);
    Due.is("16: line -1", x.lostOn(0, -1), NONE);
    Due.is("16: line 2", x.lostOn(0, 2), NONE);
    Due.is("16: line highest", x.lostOn(0, HIGHEST), NONE);
  }

  private static void queued() {
    BundleLine x = new BundleLine();
    x.open(2, 10, 1);
    x.cut(10);
    Due.frameOfSize(x, 30);
    x.tick(1);
    Due.is("17: the first", x.queued(0, 0), 1);
    Due.is("17: the second", x.queued(0, 1), 2);
    Due.is("17: no third", x.queued(0, 2), NONE);
    Due.is("17: k -1", x.queued(0, -1), NONE);
    Due.is("17: k highest", x.queued(0, HIGHEST), NONE);
    Due.is("17: line -1", x.queued(-1, 0), NONE);
    Due.is("17: line 1", x.queued(1, 0), NONE);
    x.tick(2);
    x.lose(0);
    x.tick(1);
    Due.is("17: an EMPTY", x.queued(0, 0), -2);
    Due.is("17: -2 is no refusal", x.status(22), 0);
  }

  private static void under() {
    BundleLine x = new BundleLine();
    x.open(2, 10, 5);
    x.cut(5);
    Due.frameOfSize(x, 15);
    x.tick(2);
    x.lose(0);
    x.bend(0, 0, 1);
    int[][] want = {{NONE, 0, 0, 6, 1, NONE}, {NONE, 1, 1, 6, 2, NONE}, {NONE, 2, 2, 7, 0, NONE}};
    for (int k = 0; k < 3; k++) {
      Due.row("18: k " + k, underRow(x, k), want[k]);
    }
    Due.is("18: no fourth", x.under(0, 3, 0), NONE);
    Due.is("18: k -1", x.under(0, -1, 0), NONE);
    Due.is("18: k highest", x.under(0, HIGHEST, 0), NONE);
    Due.is("18: line -1", x.under(-1, 0, 0), NONE);
    Due.is("18: line 1", x.under(1, 0, 0), NONE);
    x.lose(0);
    Due.is("18: both", x.under(0, 1, 3), 3);
    x.lose(0);
    x.tick(6);
    Due.row("18: an EMPTY", underRow(x, 0), NONE, -2, 3, 13, 0, NONE);
  }

  private static int[] underRow(BundleLine x, int k) {
    int[] row = new int[6];
    for (int what = -1; what < 5; what++) {
      row[what + 1] = x.under(0, k, what);
    }
    return row;
  }

  private static void waits() {
    BundleLine x = new BundleLine();
    x.open(1, 20, 1);
    x.room(4000);
    Due.frameOfSize(x, 3000);
    Due.frameOfSize(x, 2000);
    Due.is("19: the first NEW", x.waits(0), 0);
    Due.is("19: the last NEW", x.waits(19), 19);
    Due.is("19: no more", x.waits(20), NONE);
    Due.is("19: -1", x.waits(-1), NONE);
    Due.is("19: lowest", x.waits(LOWEST), NONE);
    x.tick(15);
    Due.is("19: those that lack CREDIT", x.waits(0), 16);
    x.fall(0);
    // 0 is THERE; LOST are 1 .. 15, NEW are 16 .. 19.
    Due.is("19: LOST first", x.waits(0), 1);
    Due.is("19: the last LOST one", x.waits(14), 15);
    Due.is("19: NEW then", x.waits(15), 16);
    Due.is("19: the last of all", x.waits(18), 19);
    Due.is("19: none more", x.waits(19), NONE);
  }

  private static void got() {
    BundleLine x = new BundleLine();
    x.open(0, 1000, 1);
    Due.is("20: no frame", x.got(0, 0), -1);
    x.type(0x80FF, 2);
    x.frame();
    Due.is("20: not GIVEN", x.got(0, 0), -3);
    Due.is("20: not GIVEN, how many", x.got(0, -1), -3);
    x.tick(2);
    Due.is("20: byte 0", x.got(0, 0), 128);
    Due.is("20: byte 1", x.got(0, 1), 255);
    Due.is("20: how many", x.got(0, -1), 2);
    Due.is("20: byte 2", x.got(0, 2), -3);
    Due.is("20: byte -2", x.got(0, -2), -3);
    Due.is("20: byte lowest", x.got(0, LOWEST), -3);
    Due.is("20: byte highest", x.got(0, HIGHEST), -3);
    Due.is("20: frame -1", x.got(-1, 0), -1);
    Due.is("20: frame 1", x.got(1, 0), -1);
    Due.row("20: refusals", Due.refusals(x), 3, 0, 6, 0, 0, 0);
  }

  private static void gotOfTheLatest() {
    BundleLine x = new BundleLine();
    x.open(0, 1000, 1);
    for (int i = 0; i < 22; i++) {
      x.type(100 + i, 1);
      x.frame();
      if (i == 19) {
        x.tick(2);
        Due.is("20: the first of 20", x.got(0, 0), 100);
      }
    }
    Due.is("20: frames that are not GIVEN count not", x.got(0, 0), 100);
    x.tick(2);
    Due.is("20: 0 is not kept", x.got(0, 0), -3);
    Due.is("20: 1 is not kept", x.got(1, -1), -3);
    Due.is("20: 2 is kept", x.got(2, 0), 102);
    Due.is("20: 21 is kept", x.got(21, 0), 121);
    Due.is("20: other questions go on", x.witness(0, 0), 100);
  }

  private static void frameOf() {
    BundleLine x = new BundleLine();
    x.open(0, 250, 2);
    Due.frameOfSize(x, 251);
    Due.frameOfSize(x, 500);
    x.tick(4);
    int[][] want = {{NONE, 251, 0, 2, 2, 4, NONE}, {NONE, 500, 2, 2, 0, NONE, NONE}};
    for (int f = 0; f < 2; f++) {
      for (int what = -1; what < 6; what++) {
        Due.is("21: " + f + ", " + what, x.frameOf(f, what), want[f][what + 1]);
      }
    }
    x.tick(1);
    Due.is("21: one is THERE", x.frameOf(1, 3), 1);
    x.tick(1);
    Due.is("21: GIVEN at 6", x.frameOf(1, 4), 6);
    Due.is("21: frame -1", x.frameOf(-1, 0), NONE);
    Due.is("21: frame 2", x.frameOf(2, 0), NONE);
    Due.row("21: no refusals", Due.refusals(x), 0, 0, 0, 0, 0, 0);
  }

  private static void credit() {
    BundleLine x = new BundleLine();
    x.open(0, 1000, 1);
    Due.frameOfSize(x, 600);
    Due.is("22: NEW ones take none", x.credit(), 8000);
    x.tick(1);
    Due.is("22: LAID ones do", x.credit(), 7400);
    x.bend(0, 0, 1);
    x.tick(1);
    Due.is("22: LOST ones and those that are THERE too", x.credit(), 7400);
    x.tick(2);
    Due.is("22: those of a GIVEN frame don't", x.credit(), 8000);
  }

  private static void skew() {
    BundleLine x = new BundleLine();
    x.open(1, 250, 1);
    x.open(0, 1000, 1);
    x.cut(250);
    Due.frameOfSize(x, 1000);
    Due.is("23: none THERE", x.skew(), 0);
    x.fall(0);
    x.tick(1);
    x.bend(1, 0, 1);
    x.tick(1);
    Due.is("23: 3 less 0", x.skew(), 3);
    x.tick(2);
    Due.is("23: all GIVEN", x.skew(), 0);
    x.type(1, 1);
    x.frame();
    Due.is("23: those of a GIVEN frame count not", x.skew(), 0);

    BundleLine y = new BundleLine();
    y.open(0, 250, 1);
    Due.frameOfSize(y, 500);
    y.tick(2);
    Due.is("23: 0 less 1", y.skew(), -1);
  }

  private static void witness() {
    BundleLine x = new BundleLine();
    x.open(0, 1000, 2);
    x.open(2, 100, 1);
    Due.frameOfSize(x, 300);
    x.tick(1);
    Due.is("24: not GIVEN", x.witness(0, 0), NONE);
    x.bend(0, 0, 1);
    // Both go over line 0 (1 tick); the first one, LOST at TIME 3, over line 1 from TIME 4 to 7.
    Due.is("24: none is GIVEN", x.tick(5), 0);
    Due.is("24: one piece is THERE, none of it is told", x.witness(0, 1), NONE);
    Due.is("24: GIVEN", x.tick(1), 1);
    Due.is("24: its second try", x.witness(0, 0), 201);
    Due.is("24: its first try", x.witness(0, 1), 100);
    Due.is("24: k 2", x.witness(0, 2), NONE);
    Due.is("24: k -1", x.witness(0, -1), NONE);
    Due.is("24: frame 1", x.witness(1, 0), NONE);
    Due.frameOfSize(x, 300);
    x.tick(8);
    Due.is("24: frame 0 ends where the next one begins", x.witness(0, 2), NONE);
    Due.is("24: frame 1 begins where the last one ended", x.witness(1, -1), NONE);
    Due.is("24: frame 1, GIVEN", x.witness(1, 0), 100);
    Due.is("24: frame -1", x.witness(-1, 0), NONE);
    Due.row("24: no refusals", Due.refusals(x), 0, 0, 0, 0, 0, 0);
  }

  private static void check() {
    BundleLine x = new BundleLine();
    x.open(0, 500, 1);
    x.open(0, 250, 1);
    Due.frameOfSize(x, 750);
    Due.is("25: not GIVEN", x.check(0, 0), false);
    x.tick(2);
    // 0 goes over line 0 (of a tie the least number), 1 over line 0 (500 bytes, 1 tick), 2 over 1.
    int v = 0;
    for (int k = 0; k < 3; k++) {
      v = 31 * v + x.witness(0, k);
    }
    Due.is("25: the first line", x.witness(0, 1), 100);
    Due.is("25: the second line", x.witness(0, 2), 101);
    Due.is("25: this one", x.check(0, v), true);
    Due.is("25: one more", x.check(0, v + 1), false);
    Due.is("25: 0", x.check(0, 0), false);
    Due.is("25: frame 1", x.check(1, 0), false);
    x.type(1, 1);
    x.frame();
    x.tick(1);
    Due.is("25: not GIVEN, by the sum that it will have", x.check(1, 101), false);
    x.tick(1);
    Due.is("25: then GIVEN", x.check(1, 101), true);
    Due.is("25: frame -1", x.check(-1, 0), false);

    BundleLine y = new BundleLine();
    y.open(0, 1000, 1);
    y.cut(1);
    Due.frameOfSize(y, 20);
    y.tick(2);
    int round = 0;
    for (int k = 0; k < 20; k++) {
      round = 31 * round + 100;
    }
    Due.is("25: it goes round", y.check(0, round), true);
    Due.row("25: no refusals", Due.refusals(y), 0, 0, 0, 0, 0, 0);
  }

  private static void status() {
    BundleLine x = new BundleLine();
    x.open(2, 300, 1);
    x.cut(100);
    Due.frameOfSize(x, 150);
    Due.frameOfSize(x, 400);
    x.type(1, 3);
    x.room(5000);
    x.tick(1);
    x.lose(0);
    x.tick(2);
    // 0 was lost as 1 and 2 came; it is laid again behind 5 and sent at TIME 3.
    int[] row = Due.status(x, 0, 1, 2, 3, 4, 5, 6, 7, 8, 9, 10, 11, 12);
    Due.row("26: at TIME 3", row, 3, 1, 2, 0, 6, 5, 0, 0, 3, 0, 100, 5000, 0);
    x.tick(1);
    row = Due.status(x, 0, 1, 2, 3, 4, 5, 6, 7, 8, 9, 10, 11, 12);
    Due.row("26: at TIME 4", row, 4, 1, 2, 2, 6, 6, 0, 0, 3, 550, 100, 5000, 0);
    x.frame();
    x.tick(1);
    x.lose(0);
    x.tick(1);
    Due.is("26: an EMPTY", x.status(12), 1);
    x.fall(0);
    Due.is("26: LOST", x.status(6), 1);
    x.frame();
    Due.is("26: -1", x.status(-1), NONE);
    for (int what = 13; what < 21; what++) {
      Due.is("26: " + what, x.status(what), NONE);
    }
    Due.is("26: 27", x.status(27), NONE);
    Due.is("26: lowest", x.status(LOWEST), NONE);
    Due.is("26: highest", x.status(HIGHEST), NONE);
  }

  private static void refusalsInTheirOrder() {
    BundleLine x = new BundleLine();
    x.open(0, 250, 1);
    x.lease(8, 0, 0);
    x.lose(0);
    x.lose(0);
    x.grow(1);
    x.frame();
    x.got(0, 0);
    x.grow(1);
    x.cut(0);
    x.room(0);
    x.tick(0);
    x.type(0, 0);
    x.rise(0);
    x.fall(0);
    x.fall(0);
    x.fall(0);
    x.fall(0);
    x.rise(0);
    x.rise(0);
    x.cut(251);
    x.room(20001);
    x.tick(101);
    x.type(0, 9);
    x.open(0, 1001, 1);
    x.open(1, 1, 41);
    Due.row("26: refusals", Due.refusals(x), 2, 2, 3, 4, 5, 6);
  }
}
