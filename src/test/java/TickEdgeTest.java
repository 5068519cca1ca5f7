/**
 * Each sentence of the Terms (LINES, FRAMES, A TICK) that names an edge has a test of its own here:
 * empty and full rows, what fits just so and what is one too many, and what is just not the case.
 */
final class TickEdgeTest {
  private static final int NONE = Due.NONE;

  private TickEdgeTest() {}

  public static void main(String[] args) {
    lines();
    frames();
    laying();
    layingAndCredit();
    layingOnWhichLine();
    sendingSteady();
    sendingOthers();
    sendingLeased();
    sendingWith200();
    sendingCounts();
    coming();
    giving();
    resting();
    Due.end();
  }

  private static BundleLine withLine(int kind, int speed, int delay, int cut) {
    BundleLine x = new BundleLine();
    x.open(kind, speed, delay);
    x.cut(cut);
    return x;
  }

  private static int[] laidOn(BundleLine x, int from, int to) {
    int[] row = new int[to - from];
    for (int i = from; i < to; i++) {
      row[i - from] = x.piece(i, 4);
    }
    return row;
  }

  private static int[] stateOf(BundleLine x, int from, int to) {
    int[] row = new int[to - from];
    for (int i = from; i < to; i++) {
      row[i - from] = x.piece(i, 0);
    }
    return row;
  }

  private static void same(int[] row, int from, int to, int value) {
    for (int i = from; i < to; i++) {
      row[i] = value;
    }
  }

  // ---- LINES, FRAMES

  private static void lines() {
    for (int kind = 0; kind <= 3; kind++) {
      BundleLine x = withLine(kind, 250, 1, 250);
      int[] row = Due.line(x, 0, 3, 4, 5, 6, 7, 8, 9, 10, 11, 12);
      Due.row("LINES: at first", row, 1, 0, 0, 0, 0, 0, 0, 0, 0, 0);
      Due.is("LINES: an empty QUEUE", x.queued(0, 0), NONE);
      Due.is("LINES: none UNDER WAY", x.under(0, 0, 0), NONE);
      x.tick(1);
      row = Due.line(x, 0, 3, 4, 5, 6, 7, 8, 9, 10, 11, 12);
      Due.row("LINES: nothing to send", row, 1, 0, 0, 0, 0, 0, 0, 0, 0, 0);
    }
    linesAfterMuchTime();
  }

  /** A line that is opened late was as quiet before as if it had been there. */
  private static void linesAfterMuchTime() {
    BundleLine x = new BundleLine();
    x.tick(77);
    x.open(3, 1000, 1);
    Due.frameOfSize(x, 4000);
    x.tick(1);
    Due.is("LINES: LEASED, 1000 at first", x.line(0, 9), 1000);
    x.tick(3);
    Due.is("LINES: LEASED, 4 ticks at first", x.line(0, 9), 1000);
    x.tick(1);
    Due.is("LINES: LEASED, after them", x.line(0, 9), 2000);
  }

  private static void frames() {
    BundleLine x = withLine(1, 2, 1, 2);
    Due.frameOfSize(x, 1);
    Due.frameOfSize(x, 2);
    Due.frameOfSize(x, 3);
    Due.row("FRAMES: NEW", stateOf(x, 0, 4), 0, 0, 0, 0);
    Due.is("FRAMES: pieces have numbers through all frames", x.frameOf(2, 1), 2);
    Due.is("FRAMES: TRIES of a NEW one", x.piece(0, 3), 0);
    x.tick(1);
    // 0 and half of 1 were sent.
    Due.row("FRAMES: LAID, UNDER WAY and in the QUEUE", stateOf(x, 0, 4), 1, 1, 1, 1);
    Due.is("FRAMES: TRIES", x.piece(3, 3), 1);
    x.fall(0);
    Due.row("FRAMES: LOST", stateOf(x, 0, 4), 2, 2, 2, 2);
    Due.is("FRAMES: TRIES of a LOST one", x.piece(0, 3), 1);
    x.rise(0);
    x.tick(2);
    Due.row("FRAMES: THERE", stateOf(x, 0, 4), 3, 1, 1, 1);
    Due.is("FRAMES: TRIES of one that is THERE", x.piece(0, 3), 2);
  }

  // ---- LAYING

  private static void laying() {
    layingWithoutLines();
    layingWithoutLinesThatAreUp();
    layingOn39();
    layingOn40();
    layingBehindAnEmpty();
    layingWhenAllAreFull();
    layingWhenOneOfTwoIsFull();
    layingLostOnesWhenAllAreFull();
    layingByNumbers();
    layingLeavesThoseThatAreThere();
    layingLeavesThoseThatAreLaid();
  }

  private static void layingWithoutLines() {
    BundleLine x = new BundleLine();
    Due.frameOfSize(x, 10);
    x.tick(5);
    Due.is("LAYING: no line", x.piece(0, 0), 0);
    Due.is("LAYING: no line, CREDIT", x.credit(), 8000);
    Due.is("LAYING: no line, TRIES", x.piece(0, 3), 0);
    Due.is("LAYING: no line, it waits", x.waits(0), 0);
  }

  private static void layingWithoutLinesThatAreUp() {
    BundleLine x = withLine(1, 1, 1, 250);
    x.open(1, 1, 1);
    Due.frameOfSize(x, 10);
    x.tick(1);
    x.fall(0);
    x.fall(1);
    Due.frameOfSize(x, 10);
    x.tick(5);
    Due.row("LAYING: no line is UP", stateOf(x, 0, 2), 2, 0);
    Due.is("LAYING: no line is UP, TRIES", x.piece(0, 3), 1);
    Due.is("LAYING: no line is UP, CREDIT", x.credit(), 7990);
    x.rise(1);
    x.tick(1);
    Due.row("LAYING: one line is UP", laidOn(x, 0, 2), 1, 1);
  }

  private static void layingOn39() {
    BundleLine x = withLine(1, 1, 1, 2);
    Due.frameOfSize(x, 78);
    x.tick(1);
    Due.is("LAYING: 39 in the QUEUE", x.line(0, 4), 39);
    Due.frameOfSize(x, 4);
    x.tick(1);
    Due.row("LAYING: one more goes there, and no other", stateOf(x, 39, 41), 1, 0);
    Due.is("LAYING: the first of 40 was sent then", x.line(0, 4), 39);
    x.tick(1);
    Due.is("LAYING: the other one goes in the next tick", x.piece(40, 0), 1);
  }

  private static void layingOn40() {
    BundleLine x = withLine(1, 1, 1, 2);
    Due.frameOfSize(x, 80);
    x.tick(1);
    Due.is("LAYING: 40 in the QUEUE", x.line(0, 4), 40);
    Due.is("LAYING: the last of 40", x.queued(0, 39), 39);
    Due.frameOfSize(x, 2);
    x.tick(1);
    Due.is("LAYING: no other goes behind 40", x.piece(40, 0), 0);
    x.tick(1);
    Due.is("LAYING: it goes behind 39", x.queued(0, 39), 40);
  }

  /** An EMPTY is a piece of the QUEUE as others are. */
  private static void layingBehindAnEmpty() {
    BundleLine x = withLine(2, 1, 1, 2);
    x.type(1, 1);
    x.frame();
    x.tick(1);
    x.lose(0);
    x.tick(1);
    Due.row("LAYING: an EMPTY in the QUEUE", Due.line(x, 0, 4, 5), 1, 1);
    Due.frameOfSize(x, 80);
    x.tick(1);
    Due.is("LAYING: 39 more go there", x.piece(39, 0), 1);
    Due.is("LAYING: the 40th does not", x.piece(40, 0), 0);
    Due.is("LAYING: the EMPTY is sent first", x.under(0, 0, 0), -2);
    Due.is("LAYING: they come behind it", x.queued(0, 0), 1);
  }

  private static void layingWhenAllAreFull() {
    BundleLine x = withLine(1, 1, 1, 2);
    x.open(1, 1, 1);
    Due.frameOfSize(x, 170);
    x.tick(1);
    Due.row("LAYING: both are full", new int[] {x.line(0, 4), x.line(1, 4)}, 40, 40);
    Due.row("LAYING: five are left", stateOf(x, 79, 85), 1, 0, 0, 0, 0, 0);
    Due.is("LAYING: CREDIT of 80", x.credit(), 7840);
    Due.is("LAYING: the first of those left", x.waits(0), 80);
  }

  private static void layingWhenOneOfTwoIsFull() {
    BundleLine x = withLine(1, 100, 40, 1);
    x.open(1, 1, 1);
    Due.frameOfSize(x, 45);
    x.tick(1);
    // Each one would be sent in tick 1 on line 0, but 40 are all that it takes.
    int[] due = new int[45];
    same(due, 40, 45, 1);
    due[1] = 0;
    Due.row("LAYING: line 0 while it has room, then line 1", laidOn(x, 0, 45), due);
  }

  private static void layingLostOnesWhenAllAreFull() {
    BundleLine x = withLine(1, 1, 1, 2);
    x.open(1, 1, 1);
    Due.frameOfSize(x, 164);
    x.tick(1);
    x.fall(0);
    x.fall(1);
    x.rise(0);
    x.tick(1);
    // 80 were LOST; 2 are NEW still.
    Due.row("LAYING: 40 LOST ones, by numbers", stateOf(x, 38, 42), 1, 1, 2, 2);
    Due.row("LAYING: 40 LOST ones and the NEW ones stay", Due.status(x, 6, 7), 40, 2);
    Due.is("LAYING: the first of those that stay", x.waits(0), 40);
    Due.is("LAYING: TRIES of one that stays", x.piece(40, 3), 1);
    Due.is("LAYING: TRIES of one that was laid", x.piece(39, 3), 2);
  }

  private static void layingByNumbers() {
    BundleLine x = withLine(1, 1, 1, 2);
    Due.frameOfSize(x, 4);
    x.tick(1);
    Due.frameOfSize(x, 4);
    x.fall(0);
    x.rise(0);
    Due.row("LAYING: LOST and NEW", stateOf(x, 0, 4), 2, 2, 0, 0);
    x.tick(1);
    int[] row = {x.queued(0, 0), x.queued(0, 1), x.queued(0, 2), x.queued(0, 3), x.queued(0, 4)};
    Due.row("LAYING: LOST ones, then NEW ones, by numbers", row, 0, 1, 2, 3, NONE);
  }

  private static void layingLeavesThoseThatAreThere() {
    BundleLine x = withThreeUnderWay();
    x.tick(1);
    x.lose(0);
    x.tick(2);
    Due.row("LAYING: one is LOST", stateOf(x, 0, 3), 3, 2, 3);
    x.tick(1);
    Due.row("LAYING: it alone is laid again", triesOf(x, 0, 3), 1, 2, 1);
    Due.row("LAYING: it alone is sent again", Due.line(x, 0, 4, 6, 7), 0, 1, 4);
  }

  private static void layingLeavesThoseThatAreLaid() {
    BundleLine x = withLine(1, 10, 40, 10);
    x.open(1, 10, 40);
    Due.frameOfSize(x, 20);
    x.tick(1);
    x.fall(1);
    Due.row("LAYING: one is LAID, one LOST", stateOf(x, 0, 2), 1, 2);
    x.tick(1);
    Due.row("LAYING: the LOST one alone", triesOf(x, 0, 2), 1, 2);
    Due.row("LAYING: the LOST one alone is sent", Due.line(x, 0, 4, 6, 7), 0, 2, 2);
  }

  private static int[] triesOf(BundleLine x, int from, int to) {
    int[] row = new int[to - from];
    for (int i = from; i < to; i++) {
      row[i - from] = x.piece(i, 3);
    }
    return row;
  }

  // ---- LAYING and CREDIT

  private static void layingAndCredit() {
    creditJustEnough();
    creditOneTooLittle();
    creditOfAllBehind();
    creditBelow0();
    creditOfGivenFrames();
  }

  /** ROOM 4000 and 3999 bytes that are LAID: CREDIT is 1. */
  private static BundleLine withCreditOf1() {
    BundleLine x = withLine(1, 1, 1, 250);
    x.room(4000);
    Due.frameOfSize(x, 3999);
    x.tick(1);
    Due.is("CREDIT: 1", x.credit(), 1);
    return x;
  }

  private static void creditJustEnough() {
    BundleLine x = withCreditOf1();
    Due.frameOfSize(x, 1);
    x.tick(1);
    Due.is("CREDIT: 1 is enough for 1", x.piece(16, 0), 1);
    Due.is("CREDIT: 0", x.credit(), 0);
    Due.frameOfSize(x, 1);
    x.tick(1);
    Due.is("CREDIT: 0 is not enough for 1", x.piece(17, 0), 0);
  }

  private static void creditOneTooLittle() {
    BundleLine x = withCreditOf1();
    Due.frameOfSize(x, 2);
    x.tick(1);
    Due.is("CREDIT: 1 is not enough for 2", x.piece(16, 0), 0);
    x.room(4001);
    x.tick(1);
    Due.is("CREDIT: 2 is enough for 2", x.piece(16, 0), 1);
    Due.is("CREDIT: 0 then", x.credit(), 0);
  }

  private static void creditOfAllBehind() {
    BundleLine x = withCreditOf1();
    Due.frameOfSize(x, 2);
    Due.frameOfSize(x, 1);
    x.tick(1);
    Due.row("CREDIT: from the first that lacks it on", stateOf(x, 16, 18), 0, 0);
  }

  private static void creditBelow0() {
    BundleLine x = withLine(1, 1, 1, 250);
    x.room(4001);
    Due.frameOfSize(x, 4000);
    x.tick(1);
    Due.frameOfSize(x, 1);
    x.tick(1);
    Due.frameOfSize(x, 1);
    x.room(4000);
    Due.is("CREDIT: below 0", x.credit(), -1);
    x.tick(1);
    Due.is("CREDIT: a NEW one stays", x.piece(17, 0), 0);
    x.fall(0);
    x.rise(0);
    Due.is("CREDIT: LOST ones are in it", x.credit(), -1);
    x.tick(1);
    Due.is("CREDIT: LOST ones need none", x.piece(16, 0), 1);
    Due.is("CREDIT: as it was", x.credit(), -1);
  }

  private static void creditOfGivenFrames() {
    BundleLine x = withLine(0, 1000, 1, 250);
    x.room(4000);
    Due.frameOfSize(x, 4000);
    Due.frameOfSize(x, 1);
    x.tick(4);
    Due.is("CREDIT: those that are THERE are in it", x.credit(), 0);
    Due.is("CREDIT: one is given at TIME 5", x.tick(1), 1);
    Due.is("CREDIT: none of a GIVEN frame", x.credit(), 4000);
    Due.is("CREDIT: LAYING was before that", x.piece(16, 0), 0);
    x.tick(1);
    Due.is("CREDIT: the next LAYING", x.piece(16, 0), 1);
    Due.is("CREDIT: less 1", x.credit(), 3999);
  }

  // ---- LAYING: which line

  private static void layingOnWhichLine() {
    whichTicksUp();
    whichTicksUpOfOneThatRested();
    whichLeastCarried();
    whichLeastNumber();
    whichLeastLost();
    whichLeastLostOfThree();
    whichLostOnesBySpeed();
    whichBySpeedOfALeasedOne();
  }

  /** 10 by 10 is 1 tick, 11 by 10 is 2: as many as line 1 takes for it. */
  private static void whichTicksUp() {
    BundleLine x = withLine(1, 9, 1, 250);
    x.open(1, 10, 1);
    Due.frameOfSize(x, 10);
    x.tick(1);
    Due.is("LAYING: 2 ticks and 1", x.piece(0, 4), 1);
    BundleLine y = withLine(1, 9, 1, 250);
    y.open(1, 10, 1);
    Due.frameOfSize(y, 11);
    y.tick(1);
    Due.is("LAYING: 2 ticks and 2", y.piece(0, 4), 0);
    BundleLine z = withLine(1, 9, 1, 250);
    z.open(1, 10, 1);
    Due.frameOfSize(z, 9);
    z.tick(1);
    Due.is("LAYING: 1 tick and 1", z.piece(0, 4), 0);
  }

  /** How often it rested or refused is no matter. */
  private static void whichTicksUpOfOneThatRested() {
    BundleLine x = withLine(1, 10, 1, 250);
    x.type(1, 1);
    x.frame();
    x.tick(1);
    x.bend(0, 0, 1);
    x.tick(5);
    Due.row("LAYING: it refused, rested, and is heard",
        Due.line(x, 0, 4, 6, 7, 8, 11, 12), 0, 0, 3, 3, 1, 1);
    x.open(1, 9, 1);
    Due.frameOfSize(x, 10);
    x.tick(1);
    Due.is("LAYING: 1 tick and 2", x.piece(1, 4), 0);
  }

  private static void whichLeastCarried() {
    BundleLine x = withLine(1, 10, 1, 250);
    x.open(1, 10, 1);
    Due.frameOfSize(x, 2);
    Due.frameOfSize(x, 10);
    x.tick(1);
    Due.row("LAYING: one on each", laidOn(x, 0, 2), 0, 1);
    Due.frameOfSize(x, 7);
    Due.frameOfSize(x, 10);
    x.tick(1);
    // 2 and 10 are CARRIED; then 9 and 20.
    Due.row("LAYING: 2 is less than 10", laidOn(x, 2, 4), 0, 1);
    Due.frameOfSize(x, 10);
    Due.frameOfSize(x, 1);
    x.tick(1);
    Due.row("LAYING: 9 is less than 20", laidOn(x, 4, 6), 0, 1);
    Due.frameOfSize(x, 10);
    x.tick(1);
    Due.row("LAYING: 19 is less than 21", laidOn(x, 6, 7), 0);
    Due.frameOfSize(x, 10);
    x.tick(1);
    Due.row("LAYING: 29 is more than 21", laidOn(x, 7, 8), 1);
  }

  private static void whichLeastNumber() {
    BundleLine x = new BundleLine();
    for (int i = 0; i < 8; i++) {
      x.open(1, 10, 1);
    }
    x.cut(10);
    Due.frameOfSize(x, 80);
    x.tick(1);
    Due.row("LAYING: 0 .. 7", laidOn(x, 0, 8), 0, 1, 2, 3, 4, 5, 6, 7);
    Due.frameOfSize(x, 80);
    x.tick(1);
    Due.row("LAYING: 0 .. 7 again", laidOn(x, 8, 16), 0, 1, 2, 3, 4, 5, 6, 7);
  }

  private static void whichLeastLost() {
    BundleLine x = withLine(1, 1000, 1, 250);
    x.open(1, 1, 1);
    Due.frameOfSize(x, 250);
    x.tick(1);
    x.fall(0);
    x.rise(0);
    x.tick(1);
    Due.is("LAYING: lost once and never: 250 ticks are no matter", x.piece(0, 4), 1);
    x.fall(1);
    x.rise(1);
    x.tick(1);
    Due.is("LAYING: lost once on each: by ticks", x.piece(0, 4), 0);
    Due.frameOfSize(x, 250);
    x.tick(1);
    Due.is("LAYING: a NEW one, though others were lost there", x.piece(1, 4), 0);
  }

  /** The fastest line is the one on which it was lost; that one is the last, then the second. */
  private static void whichLeastLostOfThree() {
    BundleLine x = withLine(1, 1, 1, 250);
    x.open(1, 1, 1);
    x.open(1, 1000, 1);
    Due.frameOfSize(x, 250);
    x.tick(1);
    Due.is("LAYING: NEW, on the fastest", x.piece(0, 4), 2);
    x.fall(2);
    x.rise(2);
    x.tick(1);
    Due.is("LAYING: lost on 2, of 0 and 1 the least number", x.piece(0, 4), 0);
    x.fall(0);
    x.rise(0);
    x.tick(1);
    Due.is("LAYING: lost on 2 and 0", x.piece(0, 4), 1);

    BundleLine y = withLine(1, 1, 1, 250);
    y.open(1, 1000, 1);
    y.open(1, 1, 1);
    y.fall(0);
    Due.frameOfSize(y, 250);
    y.tick(1);
    Due.is("LAYING: NEW, on the faster one of 1 and 2", y.piece(0, 4), 1);
    y.fall(1);
    y.rise(1);
    y.tick(1);
    Due.is("LAYING: lost on 1, and 0 is not UP", y.piece(0, 4), 2);
  }

  private static void whichLostOnesBySpeed() {
    BundleLine x = withLine(1, 10, 1, 10);
    x.open(1, 10, 1);
    x.open(1, 10, 1);
    Due.frameOfSize(x, 20);
    x.tick(1);
    Due.row("LAYING: on 0 and 1", laidOn(x, 0, 2), 0, 1);
    x.fall(0);
    x.fall(1);
    x.rise(0);
    x.rise(1);
    x.tick(1);
    // Piece 0, lost on 0, may take 1 or 2: line 2 CARRIED less. Piece 1, lost on 1, may take 0 in a
    // tick or 2 in two.
    Due.row("LAYING: by losses, ticks, CARRIED", laidOn(x, 0, 2), 2, 0);
  }

  /** SPEED counts, not what the ALLOWANCE leaves. */
  private static void whichBySpeedOfALeasedOne() {
    BundleLine x = withLine(1, 100, 1, 250);
    x.open(3, 200, 1);
    x.lease(1, 250, 20);
    Due.frameOfSize(x, 250);
    x.tick(2);
    Due.row("LAYING: the ALLOWANCE is gone", Due.line(x, 1, 5, 9), 0, 250);
    Due.frameOfSize(x, 101);
    x.tick(1);
    Due.is("LAYING: 2 ticks and 1", x.piece(1, 4), 1);
    Due.row("LAYING: it waits there", Due.line(x, 1, 4, 5, 9), 1, 101, 250);
    Due.frameOfSize(x, 100);
    x.tick(1);
    Due.is("LAYING: 1 tick and 2", x.piece(2, 4), 0);
  }

  // ---- SENDING

  private static void sendingSteady() {
    steadyJustFits();
    steadyOneTooMany();
    steadySavesNothing();
  }

  private static void steadyJustFits() {
    BundleLine x = withLine(0, 250, 1, 250);
    Due.frameOfSize(x, 500);
    x.tick(1);
    Due.row("STEADY: 250 of 250", Due.line(x, 0, 4, 5, 6, 9), 1, 250, 1, 250);
    BundleLine y = withLine(0, 250, 1, 125);
    Due.frameOfSize(y, 500);
    y.tick(1);
    Due.row("STEADY: 125 and 125 of 250", Due.line(y, 0, 4, 5, 6, 9), 2, 250, 2, 250);
  }

  private static void steadyOneTooMany() {
    BundleLine x = withLine(0, 251, 1, 126);
    Due.frameOfSize(x, 504);
    x.tick(1);
    Due.row("STEADY: 126, and not 126 of 125", Due.line(x, 0, 4, 5, 6, 9), 3, 378, 1, 126);
    BundleLine y = withLine(0, 252, 1, 126);
    Due.frameOfSize(y, 504);
    y.tick(1);
    Due.row("STEADY: 126 and 126 of 252", Due.line(y, 0, 4, 5, 6, 9), 2, 252, 2, 252);
  }

  /** 125 are left each time; 250 of two ticks would send one more. */
  private static void steadySavesNothing() {
    BundleLine x = withLine(0, 251, 1, 126);
    Due.frameOfSize(x, 504);
    for (int time = 1; time <= 4; time++) {
      x.tick(1);
      Due.is("STEADY: one at TIME " + time, x.line(0, 9), 126 * time);
    }
    // A smaller one behind a greater one waits for it.
    BundleLine y = withLine(0, 250, 1, 250);
    Due.frameOfSize(y, 200);
    Due.frameOfSize(y, 100);
    Due.frameOfSize(y, 1);
    y.tick(1);
    Due.row("STEADY: the first of the QUEUE only", Due.line(y, 0, 4, 9), 2, 200);
  }

  private static void sendingOthers() {
    for (int kind = 1; kind <= 3; kind++) {
      BundleLine x = withLine(kind, 10, 5, 10);
      Due.frameOfSize(x, 20);
      x.tick(1);
      Due.row("others: 10 of 10", Due.line(x, 0, 4, 5, 6, 9), 1, 10, 1, 10);
      BundleLine y = withLine(kind, 10, 5, 11);
      Due.frameOfSize(y, 22);
      y.tick(1);
      Due.row("others: 10 of 11", Due.line(y, 0, 4, 5, 6, 9), 2, 12, 0, 10);
      y.tick(1);
      Due.row("others: its last byte, and 9 of the next", Due.line(y, 0, 4, 5, 6, 9), 1, 2, 1, 20);
      y.tick(1);
      Due.row("others: what is left", Due.line(y, 0, 4, 5, 6, 9), 0, 0, 2, 22);
      Due.row("others: they come by their last bytes",
          new int[] {y.under(0, 0, 2), y.under(0, 1, 2)}, 7, 8);
      BundleLine z = withLine(kind, 1, 1, 250);
      Due.frameOfSize(z, 250);
      z.tick(99);
      z.tick(100);
      z.tick(50);
      Due.row("others: 249 bytes of 250", Due.line(z, 0, 4, 5, 6, 9), 1, 1, 0, 249);
      z.tick(1);
      Due.row("others: 250 bytes of 250", Due.line(z, 0, 4, 5, 6, 9), 0, 0, 1, 250);
    }
  }

  private static void sendingLeased() {
    leasedWithASpanOf1();
    leasedWithASpanOf2();
    leasedWithASpanOf20();
    leasedBySpeed();
    leasedInParts();
    leasedWithASpanMadeLonger();
    leasedBelow0();
    leasedForLong();
    leasedAndFallen();
    leasedAndFallenForLong();
  }

  private static int[] carried(BundleLine x, int ticks) {
    int[] row = new int[ticks];
    for (int i = 0; i < ticks; i++) {
      int before = x.line(0, 9);
      x.tick(1);
      row[i] = x.line(0, 9) - before;
    }
    return row;
  }

  private static BundleLine leased(int speed, int allowance, int span) {
    BundleLine x = withLine(3, speed, 1, 250);
    x.lease(0, allowance, span);
    Due.frameOfSize(x, 4000);
    return x;
  }

  private static void leasedWithASpanOf1() {
    Due.row("LEASED: no ticks before", carried(leased(1000, 250, 1), 4), 250, 250, 250, 250);
  }

  private static void leasedWithASpanOf2() {
    Due.row("LEASED: one tick before", carried(leased(250, 250, 2), 5), 250, 0, 250, 0, 250);
    Due.row("LEASED: 60 of 310", carried(leased(250, 310, 2), 5), 250, 60, 250, 60, 250);
  }

  private static void leasedWithASpanOf20() {
    int[] due = new int[42];
    due[0] = 250;
    due[20] = 250;
    due[40] = 250;
    Due.row("LEASED: 19 ticks before", carried(leased(1000, 250, 20), 42), due);
  }

  private static void leasedBySpeed() {
    Due.row("LEASED: no more than SPEED",
        carried(leased(100, 20000, 20), 5), 100, 100, 100, 100, 100);
    Due.row("LEASED: SPEED, just so", carried(leased(250, 250, 1), 3), 250, 250, 250);
    Due.row("LEASED: one more than SPEED", carried(leased(250, 251, 2), 4), 250, 1, 250, 1);
  }

  /** What was sent of a piece stays so, while no byte goes. */
  private static void leasedInParts() {
    BundleLine x = leased(200, 250, 5);
    x.tick(2);
    Due.row("LEASED: 250 are a piece", Due.line(x, 0, 4, 6, 9), 15, 1, 250);
    x.tick(3);
    Due.row("LEASED: none", Due.line(x, 0, 4, 9), 15, 250);
    x.tick(1);
    Due.row("LEASED: 200 of the next", Due.line(x, 0, 4, 5, 7), 15, 3550, 1);
    x.tick(1);
    Due.row("LEASED: its last 50", Due.line(x, 0, 4, 5, 7), 14, 3500, 2);
    x.lease(0, 300, 5);
    x.tick(1);
    Due.row("LEASED: 50 of the next", Due.line(x, 0, 4, 5, 7), 14, 3450, 2);
    x.tick(2);
    Due.row("LEASED: they stay sent", Due.line(x, 0, 4, 5, 7), 14, 3450, 2);
  }

  /** The ticks before count, though the SPAN was 1 as they went. */
  private static void leasedWithASpanMadeLonger() {
    BundleLine x = leased(100, 250, 1);
    Due.row("LEASED: 300 in 3", carried(x, 3), 100, 100, 100);
    x.lease(0, 250, 20);
    int[] due = new int[19];
    // TIME 4 .. 20 see all of the 300; at 21 it is 200, at 22 100 and the 50 of 21.
    due[17] = 50;
    due[18] = 100;
    Due.row("LEASED: a SPAN of 20", carried(x, 19), due);
  }

  private static void leasedBelow0() {
    BundleLine x = leased(1000, 1000, 4);
    Due.row("LEASED: 1000", carried(x, 1), 1000);
    x.lease(0, 999, 4);
    Due.row("LEASED: -1 is none", carried(x, 1), 0);
    x.lease(0, 1000, 4);
    Due.row("LEASED: 0 is none", carried(x, 1), 0);
    x.lease(0, 1001, 4);
    Due.row("LEASED: 1", carried(x, 1), 1);
  }

  /** What went long ago is forgotten, however long that is. */
  private static void leasedForLong() {
    BundleLine x = leased(250, 250, 1);
    x.room(20000);
    Due.frameOfSize(x, 4000);
    Due.frameOfSize(x, 4000);
    Due.frameOfSize(x, 4000);
    int[] due = new int[64];
    same(due, 0, 64, 250);
    Due.row("LEASED: 250 each tick", carried(x, 64), due);
    BundleLine y = leased(250, 250, 16);
    int[] now = new int[80];
    for (int i = 0; i < 80; i += 16) {
      now[i] = 250;
    }
    Due.row("LEASED: 250 in 16 ticks", carried(y, 80), now);
  }

  /** What it CARRIED counts, though the line fell since. */
  private static void leasedAndFallen() {
    BundleLine x = leased(250, 250, 3);
    Due.row("LEASED: 250", carried(x, 1), 250);
    x.fall(0);
    x.rise(0);
    Due.row("LEASED: UP again at once", carried(x, 3), 0, 0, 250);
    x.fall(0);
    Due.row("LEASED: not UP", carried(x, 1), 0);
    x.rise(0);
    Due.row("LEASED: UP again after a tick", carried(x, 2), 0, 250);
  }

  /** 250 at TIME 1, then none for so long: whatever TIME it is, nothing of it counts. */
  private static void leasedAndFallenForLong() {
    for (int down = 1; down <= 70; down++) {
      BundleLine x = leased(250, 250, 2);
      x.tick(1);
      x.fall(0);
      x.tick(down);
      x.rise(0);
      Due.row("LEASED: not UP for " + down, carried(x, 2), 250, 0);
    }
  }

  private static void sendingWith200() {
    sendingWith199();
    sendingWith200UnderWay();
    sendingWith200OnSteady();
  }

  /** 5 ticks of 40, but for one. */
  private static BundleLine with199(int kind, int speed) {
    BundleLine x = withLine(kind, speed, 40, 1);
    Due.frameOfSize(x, 199);
    x.tick(5);
    Due.row("199 UNDER WAY", Due.line(x, 0, 4, 6), 0, 199);
    return x;
  }

  private static void sendingWith199() {
    BundleLine x = with199(1, 1000);
    x.cut(2);
    Due.frameOfSize(x, 4);
    x.tick(1);
    Due.row("SENDING: one more, and no byte of the next",
        Due.line(x, 0, 4, 5, 6, 9), 1, 2, 200, 201);
  }

  private static void sendingWith200UnderWay() {
    BundleLine x = with199(2, 1000);
    x.lose(0);
    Due.frameOfSize(x, 3);
    x.tick(34);
    Due.row("SENDING: one that is lost is UNDER WAY, too", Due.line(x, 0, 4, 6, 9), 2, 200, 200);
    x.tick(1);
    // TIME 40; at 41 forty come, which is behind SENDING.
    Due.row("SENDING: not at 40", Due.line(x, 0, 4, 6, 9), 2, 200, 200);
    x.tick(1);
    Due.row("SENDING: not at 41", Due.line(x, 0, 4, 6, 9), 2, 160, 200);
    x.tick(1);
    // The two, and piece 0 again: piece 1 told of it at 41.
    Due.row("SENDING: at 42", Due.line(x, 0, 4, 6, 9), 0, 123, 203);
  }

  private static void sendingWith200OnSteady() {
    BundleLine x = with199(0, 1000);
    Due.frameOfSize(x, 2);
    x.tick(10);
    Due.row("SENDING: STEADY sends none, too", Due.line(x, 0, 4, 6, 9), 1, 200, 200);
  }

  private static void sendingCounts() {
    for (int delay = 1; delay <= 40; delay += 39) {
      BundleLine x = withLine(1, 2, delay, 1);
      Due.frameOfSize(x, 2);
      x.tick(1);
      Due.row("SENDING: counts from 0", new int[] {x.under(0, 0, 1), x.under(0, 1, 1)}, 0, 1);
      Due.is("SENDING: COUNT", x.line(0, 7), 2);
      Due.is("SENDING: it comes at TIME + DELAY", x.under(0, 1, 2), 1 + delay);
      for (int i = 1; i < delay; i++) {
        Due.is("SENDING: it comes not before", x.tick(1), 0);
      }
      Due.is("SENDING: it comes after " + delay, x.tick(1), 1);
      Due.is("SENDING: GIVEN at", x.frameOf(0, 4), 1 + delay);
      Due.row("SENDING: none UNDER WAY", Due.line(x, 0, 6, 7, 8), 0, 2, 2);
    }
  }

  // ---- COMING

  private static void coming() {
    comingOfTheNextCount();
    comingAfterOneThatWasLost();
    comingAfterManyThatWereLost();
    comingOfNoneAfterThem();
    comingOfABentOne();
    comingOfALostBentOne();
    comingOfEmpties();
    comingAfterThousands();
    comingAfterHundredsThatWereLost();
    fallingAfterHundredsThatWereLost();
  }

  private static BundleLine withThreeUnderWay() {
    BundleLine x = withLine(2, 1, 3, 1);
    Due.frameOfSize(x, 3);
    x.tick(3);
    Due.row("three UNDER WAY", Due.line(x, 0, 6, 7, 8), 3, 3, 0);
    return x;
  }

  private static void comingOfTheNextCount() {
    BundleLine x = withThreeUnderWay();
    x.tick(1);
    Due.row("COMING: count 0, SEEN 0: none is LOST", Due.line(x, 0, 6, 8, 10), 2, 1, 0);
    Due.row("COMING: it is THERE", stateOf(x, 0, 3), 3, 1, 1);
  }

  private static void comingAfterOneThatWasLost() {
    BundleLine x = withThreeUnderWay();
    x.lose(0);
    x.tick(1);
    Due.row("COMING: it is no more", Due.line(x, 0, 6, 8, 10, 12), 2, 0, 0, 0);
    Due.row("COMING: not known to be lost", stateOf(x, 0, 3), 1, 1, 1);
    x.tick(1);
    Due.row("COMING: count 1 tells of 0", Due.line(x, 0, 6, 8, 10, 12), 1, 2, 1, 0);
    Due.row("COMING: 0 is LOST", stateOf(x, 0, 3), 2, 3, 1);
    Due.row("COMING: once on that line", new int[] {x.lostOn(0, 0), x.lostOn(1, 0)}, 1, 0);
    Due.is("COMING: it waits", x.waits(0), 0);
    x.tick(1);
    Due.row("COMING: it is laid in the next tick", stateOf(x, 0, 3), 1, 3, 3);
  }

  private static void comingAfterManyThatWereLost() {
    BundleLine x = withThreeUnderWay();
    x.lose(0);
    x.lose(0);
    x.tick(3);
    Due.row("COMING: count 2 tells of 0 and 1", Due.line(x, 0, 6, 8, 10), 0, 3, 2);
    Due.row("COMING: both are LOST", stateOf(x, 0, 3), 2, 2, 3);
  }

  private static void comingOfNoneAfterThem() {
    BundleLine x = withThreeUnderWay();
    x.tick(2);
    x.lose(0);
    x.tick(1);
    Due.row("COMING: the last one tells nothing", Due.line(x, 0, 6, 7, 8, 10), 0, 3, 2, 0);
    Due.row("COMING: the last one is LAID still", stateOf(x, 0, 3), 3, 3, 1);
  }

  private static void comingOfABentOne() {
    BundleLine x = withThreeUnderWay();
    x.bend(0, 0, 1);
    x.tick(1);
    Due.row("COMING: refused, it is no more", Due.line(x, 0, 6, 8, 10, 12), 2, 0, 0, 1);
    Due.row("COMING: refused, not known to be lost", stateOf(x, 0, 3), 1, 1, 1);
    x.tick(1);
    Due.row("COMING: then it is LOST", Due.line(x, 0, 6, 8, 10, 12), 1, 2, 1, 1);
    Due.row("COMING: then it is LOST, asked", stateOf(x, 0, 3), 2, 3, 1);
  }

  private static void comingOfALostBentOne() {
    BundleLine x = withThreeUnderWay();
    x.bend(0, 0, 1);
    x.lose(0);
    x.tick(1);
    Due.row("COMING: lost ones are not refused", Due.line(x, 0, 6, 8, 10, 12), 2, 0, 0, 0);
  }

  private static void comingOfEmpties() {
    BundleLine x = withLine(2, 1, 1, 1);
    x.type(1, 1);
    x.frame();
    x.tick(1);
    x.lose(0);
    x.tick(2);
    x.lose(0);
    Due.row("COMING: 0 and an EMPTY are lost", Due.line(x, 0, 6, 7, 8, 11), 1, 2, 0, 1);
    x.tick(1);
    Due.row("COMING: another EMPTY", Due.line(x, 0, 4, 6, 7, 8, 10, 11), 1, 0, 2, 0, 0, 2);
    x.tick(2);
    // Counts 0 and 1 are told of by count 2; the EMPTY among them is no piece with a number.
    Due.row("COMING: one is LOST", Due.line(x, 0, 4, 6, 7, 8, 10, 11), 0, 0, 3, 3, 1, 2);
    Due.row("COMING: no EMPTY is THERE", Due.status(x, 4, 5, 6), 1, 0, 1);
    Due.is("COMING: it goes again", x.tick(2), 1);
    Due.row("COMING: all is heard", Due.line(x, 0, 7, 8, 9, 11), 4, 4, 4, 2);
  }

  /** COUNT and SEEN go on as far as pieces do. */
  private static void comingAfterThousands() {
    BundleLine x = withLine(2, 40, 1, 1);
    Due.frameOfSize(x, 3000);
    x.tick(26);
    for (int i = 1000; i < 1030; i++) {
      Due.is("COMING: lost, of counts 1000 and up", x.lose(0), i);
    }
    x.tick(1);
    Due.row("COMING: count 1030 tells of thirty", Due.line(x, 0, 7, 8, 10), 1080, 1040, 30);
    Due.row("COMING: thirty wait",
        new int[] {x.waits(0), x.waits(29), x.waits(30)}, 1000, 1029, 1080);
    x.tick(25);
    // The thirty went once more, so that count 2040 is piece 2010.
    for (int i = 2010; i < 2022; i++) {
      Due.is("COMING: lost, of counts 2040 and up", x.lose(0), i);
    }
    x.tick(1);
    Due.row("COMING: count 2052 tells of twelve", Due.line(x, 0, 7, 8, 10), 2120, 2080, 42);
    Due.row("COMING: twelve wait",
        new int[] {x.waits(0), x.waits(11), x.waits(12)}, 2010, 2021, 2090);
    Due.is("COMING: all", x.tick(40), 1);
    Due.row("COMING: 3042 were sent and heard", Due.line(x, 0, 7, 8, 9, 10), 3042, 3042, 3042, 42);
  }

  /**
   * 400 are no more, of which none is known to be lost; 200 are UNDER WAY; TIME is 19. It takes some
   * 410 calls, so that it can be met within 512.
   */
  private static BundleLine with600Unheard() {
    BundleLine x = withLine(2, 1000, 6, 1);
    Due.frameOfSize(x, 3000);
    x.tick(5);
    for (int i = 0; i < 400; i++) {
      // 200 are all that may be UNDER WAY: those of TIME 1 .. 5 come at 7 .. 11.
      if (i == 200) {
        x.tick(7);
      }
      Due.is("COMING: lost, one of hundreds", x.lose(0), i);
    }
    x.tick(7);
    Due.row("COMING: 600 unheard", Due.line(x, 0, 4, 6, 7, 8, 10), 0, 200, 600, 0, 0);
    return x;
  }

  private static void comingAfterHundredsThatWereLost() {
    BundleLine x = with600Unheard();
    x.tick(2);
    Due.row("COMING: count 400 tells of 400", Due.line(x, 0, 6, 7, 8, 10), 160, 600, 440, 400);
    Due.row("COMING: 40 are THERE, 400 LOST", Due.status(x, 5, 6), 40, 400);
    Due.row("COMING: the first two of them", stateOf(x, 0, 2), 2, 2);
    Due.row("COMING: the last of them and the next", stateOf(x, 399, 401), 2, 3);
    Due.row("COMING: 400 wait", new int[] {x.waits(0), x.waits(399), x.waits(400)}, 0, 399, 640);
  }

  private static void fallingAfterHundredsThatWereLost() {
    BundleLine x = with600Unheard();
    Due.is("COMING: a line falls with 600 unheard", x.fall(0), 600);
    Due.row("COMING: it fell", Due.line(x, 0, 4, 6, 7, 8, 10), 0, 0, 600, 600, 600);
    Due.row("COMING: all of them are LOST", Due.status(x, 5, 6, 7), 0, 600, 2400);
    int[] often = {x.lostOn(0, 0), x.lostOn(87, 0), x.lostOn(88, 0), x.lostOn(599, 0)};
    Due.row("COMING: each of them once", often, 1, 1, 1, 1);
    Due.is("COMING: the next was never laid", x.lostOn(600, 0), 0);
  }

  private static void giving() {
    givingNeedsAllPieces();
    givingNeedsAllFramesAhead();
  }

  private static void givingNeedsAllPieces() {
    BundleLine x = withLine(1, 1, 1, 1);
    Due.frameOfSize(x, 3);
    Due.is("GIVEN: none of 3 is THERE", x.tick(1), 0);
    Due.is("GIVEN: 1 of 3", x.tick(1), 0);
    Due.is("GIVEN: 2 of 3", x.tick(1), 0);
    Due.is("GIVEN: 2 of 3, asked", x.frameOf(0, 3), 2);
    Due.is("GIVEN: 3 of 3", x.tick(1), 1);
    Due.is("GIVEN: then", x.frameOf(0, 4), 4);
  }

  private static void givingNeedsAllFramesAhead() {
    BundleLine x = withLine(2, 3, 1, 1);
    Due.smallFrames(x, 3);
    x.tick(1);
    Due.is("GIVEN: frame 0 is lost", x.lose(0), 0);
    Due.is("GIVEN: none, as 0 is ahead", x.tick(1), 0);
    Due.row("GIVEN: 1 and 2 are THERE", new int[] {x.frameOf(1, 3), x.frameOf(2, 3)}, 1, 1);
    Due.row("GIVEN: none of them", new int[] {x.frameOf(1, 4), x.frameOf(2, 4)}, NONE, NONE);
    Due.is("GIVEN: their bytes are in CREDIT", x.credit(), 7997);
    x.tick(1);
    Due.is("GIVEN: all three at once", x.tick(1), 3);
    int[] times = {x.frameOf(0, 4), x.frameOf(1, 4), x.frameOf(2, 4)};
    Due.row("GIVEN: at TIME 4", times, 4, 4, 4);
  }

  // ---- RESTING

  private static void resting() {
    restingWhenAllIsSeen();
    restingWithAQueue();
    restingWithSomeUnderWay();
    restingWhenNotUp();
    restingOfEachKind();
    restingWithoutALease();
    restingByTheLastTick();
  }

  private static void restingWhenAllIsSeen() {
    BundleLine x = withLine(2, 1, 1, 250);
    x.tick(3);
    Due.is("RESTING: COUNT is 0", x.line(0, 11), 0);
    Due.frameOfSize(x, 1);
    x.tick(2);
    Due.row("RESTING: SEEN is COUNT", Due.line(x, 0, 4, 6, 7, 8, 11), 0, 0, 1, 1, 0);
    x.tick(100);
    Due.is("RESTING: no EMPTY ever", x.status(12), 0);
  }

  private static void restingWithAQueue() {
    BundleLine x = withLine(2, 1, 1, 5);
    Due.frameOfSize(x, 1);
    Due.frameOfSize(x, 5);
    x.tick(1);
    x.lose(0);
    x.tick(1);
    Due.row("RESTING: one in the QUEUE", Due.line(x, 0, 4, 6, 7, 8, 11), 1, 0, 1, 0, 0);
    x.tick(5);
    Due.row("RESTING: it told of the lost one", Due.line(x, 0, 6, 8, 10, 11), 0, 2, 1, 0);
  }

  private static void restingWithSomeUnderWay() {
    BundleLine x = withLine(2, 2, 2, 1);
    Due.frameOfSize(x, 3);
    x.tick(1);
    x.lose(0);
    x.lose(0);
    x.tick(2);
    Due.row("RESTING: one UNDER WAY", Due.line(x, 0, 4, 6, 7, 8, 11), 0, 1, 3, 0, 0);
    x.tick(1);
    Due.row("RESTING: it told of the lost ones", Due.line(x, 0, 6, 8, 10, 11), 0, 3, 2, 0);
  }

  private static void restingWhenNotUp() {
    BundleLine x = withLine(2, 1, 1, 250);
    Due.frameOfSize(x, 1);
    x.tick(1);
    x.lose(0);
    x.fall(0);
    x.tick(5);
    Due.row("RESTING: not UP", Due.line(x, 0, 4, 7, 8, 11), 0, 1, 1, 0);
    x.tick(1);
    x.fall(0);
    x.rise(0);
    Due.is("RESTING: SEEN is COUNT, as it fell", x.line(0, 8), 1);
    x.tick(2);
    Due.is("RESTING: no EMPTY was needed", x.status(12), 0);
  }

  private static void restingOfEachKind() {
    for (int kind = 0; kind <= 3; kind++) {
      BundleLine x = withLine(kind, 250, 1, 250);
      Due.frameOfSize(x, 1);
      x.tick(1);
      x.bend(0, 0, 255);
      x.tick(1);
      Due.row("RESTING: KIND " + kind, Due.line(x, 0, 4, 5, 6, 7, 8, 11, 12), 1, 1, 0, 1, 0, 1, 1);
      Due.is("RESTING: an EMPTY", x.queued(0, 0), -2);
      x.tick(1);
      Due.row("RESTING: it is sent", Due.line(x, 0, 4, 5, 6, 7, 9, 11), 0, 0, 1, 2, 2, 1);
      int[] row = {x.under(0, 0, 0), x.under(0, 0, 1), x.under(0, 0, 2), x.under(0, 0, 3)};
      Due.row("RESTING: it is UNDER WAY", row, -2, 1, 4, 0);
      x.tick(1);
      Due.row("RESTING: it came", Due.line(x, 0, 4, 6, 7, 8, 10, 11), 0, 0, 2, 2, 1, 1);
      Due.is("RESTING: in all", x.status(12), 1);
    }
  }

  private static void restingWithoutALease() {
    BundleLine x = withLine(3, 250, 1, 250);
    x.lease(0, 250, 6);
    Due.frameOfSize(x, 250);
    x.tick(1);
    x.lose(0);
    x.tick(5);
    // What went at TIME 1 is the whole ALLOWANCE till TIME 6.
    Due.row("RESTING: an EMPTY needs its byte", Due.line(x, 0, 4, 6, 7, 9, 11), 1, 0, 1, 250, 1);
    x.tick(1);
    Due.row("RESTING: it has it at TIME 7", Due.line(x, 0, 4, 6, 7, 9, 11), 0, 1, 2, 251, 1);
  }

  /** What comes in a tick is heard before it rests. */
  private static void restingByTheLastTick() {
    BundleLine x = withLine(2, 2, 1, 1);
    Due.frameOfSize(x, 2);
    x.tick(1);
    x.bend(0, 0, 1);
    x.tick(1);
    Due.row("RESTING: count 1 came", Due.line(x, 0, 4, 6, 7, 8, 10, 11), 0, 0, 2, 2, 1, 0);
    BundleLine y = withLine(2, 2, 1, 1);
    Due.frameOfSize(y, 2);
    y.tick(1);
    y.lose(0);
    y.bend(0, 0, 1);
    y.tick(1);
    Due.row("RESTING: neither came", Due.line(y, 0, 4, 6, 7, 8, 10, 11), 1, 0, 2, 0, 0, 1);
  }
}
