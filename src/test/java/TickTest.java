/** The order of a TICK, part by part, with answers that were worked out by hand. */
final class TickTest {
  private static final int NONE = -9;

  private TickTest() {}

  public static void main(String[] args) {
    layingTakesTheLineThatSendsFirst();
    layingRoundsTicksUp();
    layingTakesTheLeastCarried();
    layingCountsWhatWasSentOfTheFirst();
    layingStopsAtFullQueues();
    layingTakesLostOnesFirst();
    layingTakesTheLeastLost();
    layingStopsAtTheFirstThatLacksCredit();
    layingNeedsNoCreditForLostOnes();
    sendingOnSteadyLinesIsWhole();
    sendingOnOthersGoesOn();
    sendingOnLeasedLinesKeepsTheAllowance();
    sendingWithALeaseThatWasMadeLess();
    sendingStopsAt200();
    comingTellsWhatWasLost();
    comingKeepsTheOrderOfFrames();
    comingAfterManyCounts();
    restingNeedsAnEmptyLine();
    restingOnEachLine();
    linesThatAreNotUpRest();
    Due.end();
  }

  private static int[] laidOn(BundleLine x, int from, int to) {
    int[] row = new int[to - from];
    for (int i = from; i < to; i++) {
      row[i - from] = x.piece(i, 4);
    }
    return row;
  }

  private static void layingTakesTheLineThatSendsFirst() {
    BundleLine x = new BundleLine();
    x.open(1, 10, 1);
    x.open(1, 30, 40);
    x.cut(30);
    Due.frameOfSize(x, 240);
    x.tick(1);
    // Line 1: 1, 2 ticks, then 3 on both (a tie: line 0), line 1: 3, 4, 5, then a tie of 6 again.
    Due.row("LAYING: ticks, up", laidOn(x, 0, 8), 1, 1, 0, 1, 1, 1, 0, 1);
  }

  private static void layingRoundsTicksUp() {
    // Ticks by 9 on line 0 and by 10 on line 1: 2 and 1, 2 and 2, 3 and 2, 3 and 3, 4 and 3.
    int[] sizes = {10, 11, 20, 21, 30};
    int[] want = {1, 0, 1, 0, 1};
    for (int i = 0; i < sizes.length; i++) {
      BundleLine x = new BundleLine();
      x.open(1, 9, 1);
      x.open(1, 10, 1);
      Due.frameOfSize(x, sizes[i]);
      x.tick(1);
      Due.is("LAYING: " + sizes[i] + " bytes", x.piece(0, 4), want[i]);
    }
  }

  private static void layingTakesTheLeastCarried() {
    BundleLine x = new BundleLine();
    x.open(1, 100, 1);
    x.open(1, 100, 1);
    x.open(1, 100, 1);
    x.cut(100);
    Due.frameOfSize(x, 200);
    x.tick(1);
    Due.row("LAYING: all carried 0", laidOn(x, 0, 2), 0, 1);
    x.tick(1);
    x.cut(90);
    Due.frameOfSize(x, 180);
    x.tick(1);
    Due.row("LAYING: 100, 100, 0", laidOn(x, 2, 4), 2, 0);
    x.tick(1);
    Due.frameOfSize(x, 90);
    x.tick(1);
    Due.row("LAYING: 190, 100, 90", laidOn(x, 4, 5), 2);
  }

  private static void layingCountsWhatWasSentOfTheFirst() {
    BundleLine x = new BundleLine();
    x.open(1, 10, 1);
    x.cut(100);
    Due.frameOfSize(x, 100);
    x.tick(9);
    Due.is("LAYING: 10 bytes wait", x.line(0, 5), 10);
    x.open(1, 5, 1);
    x.type(1, 8);
    x.type(1, 2);
    x.frame();
    x.tick(1);
    Due.row("LAYING: 20 by 10 and 10 by 5 are 2 ticks, and line 1 carried none", laidOn(x, 1, 2), 1);

    BundleLine y = new BundleLine();
    y.open(1, 10, 1);
    y.cut(100);
    Due.frameOfSize(y, 100);
    y.tick(9);
    y.open(1, 4, 1);
    y.type(1, 8);
    y.type(1, 2);
    y.frame();
    y.tick(1);
    Due.row("LAYING: 20 by 10 are 2 ticks, 10 by 4 are 3", laidOn(y, 1, 2), 0);
  }

  private static void layingStopsAtFullQueues() {
    BundleLine x = new BundleLine();
    x.open(1, 2, 1);
    x.open(1, 1, 1);
    x.cut(5);
    Due.frameOfSize(x, 500);
    x.tick(1);
    Due.is("LAYING: 40 on line 0", x.line(0, 4), 40);
    Due.is("LAYING: 40 on line 1", x.line(1, 4), 40);
    Due.is("LAYING: 20 stay NEW", x.status(7), 20);
    Due.is("LAYING: CREDIT", x.credit(), 7600);
    x.tick(2);
    Due.is("LAYING: the first was sent", x.line(0, 7), 1);
    x.tick(1);
    Due.is("LAYING: one more came behind it", x.queued(0, 39), 80);
    Due.is("LAYING: 19 stay NEW", x.status(7), 19);
  }

  private static void layingTakesLostOnesFirst() {
    BundleLine x = new BundleLine();
    x.open(1, 10, 1);
    x.cut(10);
    Due.frameOfSize(x, 30);
    x.tick(1);
    x.fall(0);
    Due.frameOfSize(x, 10);
    x.rise(0);
    x.tick(1);
    for (int k = 0; k < 3; k++) {
      Due.is("LAYING: behind the first one", x.queued(0, k), k + 1);
    }
    Due.is("LAYING: the first one was sent", x.under(0, 0, 0), 0);

    BundleLine y = new BundleLine();
    y.open(1, 1, 1);
    y.cut(1);
    Due.frameOfSize(y, 60);
    y.tick(1);
    y.fall(0);
    y.rise(0);
    y.tick(1);
    // 0 .. 39 were LOST; they fill the QUEUE, so that no NEW one is laid.
    Due.is("LAYING: 20 NEW ones stay", y.status(7), 20);
    Due.is("LAYING: LOST ones by numbers", y.queued(0, 38), 39);
  }

  private static void layingTakesTheLeastLost() {
    BundleLine x = new BundleLine();
    x.open(1, 100, 1);
    x.open(1, 1, 1);
    x.cut(10);
    Due.frameOfSize(x, 10);
    x.tick(1);
    Due.is("LAYING: NEW, the faster line", x.piece(0, 4), 0);
    x.fall(0);
    x.rise(0);
    x.tick(1);
    Due.is("LAYING: LOST, the line on which it was not lost", x.piece(0, 4), 1);
    x.fall(1);
    x.tick(1);
    Due.is("LAYING: only line 0 is UP", x.piece(0, 4), 0);
    x.fall(0);
    x.rise(0);
    x.rise(1);
    x.tick(1);
    Due.is("LAYING: lost twice on line 0, once on line 1", x.piece(0, 4), 1);
    x.fall(1);
    x.rise(1);
    x.tick(1);
    Due.is("LAYING: lost twice on each: the faster line", x.piece(0, 4), 0);
  }

  private static void layingStopsAtTheFirstThatLacksCredit() {
    BundleLine x = new BundleLine();
    x.open(1, 1, 1);
    x.room(4000);
    x.cut(200);
    Due.frameOfSize(x, 3900);
    Due.frameOfSize(x, 200);
    x.cut(50);
    Due.frameOfSize(x, 50);
    x.tick(1);
    Due.is("LAYING: CREDIT is left", x.credit(), 100);
    Due.is("LAYING: the first that lacks it", x.piece(20, 0), 0);
    Due.is("LAYING: a smaller one behind it", x.piece(21, 0), 0);
    x.room(4100);
    x.tick(1);
    Due.is("LAYING: just enough", x.piece(20, 0), 1);
    Due.is("LAYING: none left", x.credit(), 0);
    Due.is("LAYING: the smaller one lacks it", x.piece(21, 0), 0);
  }

  private static void layingNeedsNoCreditForLostOnes() {
    BundleLine x = new BundleLine();
    x.open(1, 1, 1);
    x.room(5000);
    Due.frameOfSize(x, 4000);
    Due.frameOfSize(x, 1250);
    x.tick(1);
    x.room(4000);
    Due.is("LAYING: CREDIT", x.credit(), -1000);
    x.fall(0);
    x.rise(0);
    x.tick(1);
    Due.is("LAYING: 20 again", x.line(0, 4), 20);
    Due.is("LAYING: CREDIT as it was", x.credit(), -1000);
    Due.is("LAYING: NEW", x.status(7), 1);
  }

  private static void sendingOnSteadyLinesIsWhole() {
    BundleLine x = new BundleLine();
    x.open(0, 300, 1);
    x.cut(110);
    Due.frameOfSize(x, 350);
    x.tick(1);
    Due.is("SENDING: two of 110", x.line(0, 9), 220);
    Due.is("SENDING: nothing of the third", x.line(0, 5), 130);
    x.tick(1);
    Due.is("SENDING: what was left over is gone", x.line(0, 9), 350);
    Due.is("SENDING: it comes at TIME 3", x.under(0, 0, 2), 3);
  }

  private static void sendingOnOthersGoesOn() {
    BundleLine x = new BundleLine();
    x.open(2, 300, 7);
    x.cut(110);
    Due.frameOfSize(x, 350);
    x.tick(1);
    Due.is("SENDING: 300 bytes", x.line(0, 9), 300);
    Due.is("SENDING: two pieces", x.line(0, 7), 2);
    Due.is("SENDING: 30 of the third and 20 wait", x.line(0, 5), 50);
    Due.is("SENDING: two in the QUEUE", x.line(0, 4), 2);
    x.tick(1);
    Due.is("SENDING: all", x.line(0, 9), 350);
    Due.is("SENDING: count of the third", x.under(0, 2, 1), 2);
    Due.is("SENDING: it comes by its last byte", x.under(0, 2, 2), 9);
  }

  private static void sendingOnLeasedLinesKeepsTheAllowance() {
    BundleLine x = new BundleLine();
    x.open(3, 300, 1);
    x.lease(0, 500, 3);
    Due.frameOfSize(x, 4000);
    int[] want = {300, 500, 500, 800, 1000, 1000, 1300};
    for (int i = 0; i < want.length; i++) {
      x.tick(1);
      Due.is("SENDING: LEASED at TIME " + (i + 1), x.line(0, 9), want[i]);
    }
    x.lease(0, 250, 1);
    x.tick(2);
    Due.is("SENDING: a SPAN of 1", x.line(0, 9), 1800);

    BundleLine y = new BundleLine();
    y.open(3, 1000, 1);
    y.lease(0, 250, 20);
    Due.frameOfSize(y, 1000);
    y.tick(20);
    Due.is("SENDING: a SPAN of 20, in it", y.line(0, 9), 250);
    y.tick(1);
    Due.is("SENDING: a SPAN of 20, after it", y.line(0, 9), 500);

    BundleLine z = new BundleLine();
    z.open(3, 1000, 1);
    Due.frameOfSize(z, 4000);
    z.tick(4);
    Due.is("SENDING: 1000 in 4 at first", z.line(0, 9), 1000);
    z.tick(1);
    Due.is("SENDING: 1000 in the next 4", z.line(0, 9), 2000);
  }

  private static void sendingWithALeaseThatWasMadeLess() {
    BundleLine x = new BundleLine();
    x.open(3, 600, 1);
    Due.frameOfSize(x, 2000);
    x.tick(1);
    x.lease(0, 500, 3);
    x.tick(2);
    Due.is("SENDING: less than 0 is none", x.line(0, 9), 600);
    x.fall(0);
    x.rise(0);
    x.tick(1);
    Due.is("SENDING: what it carried before it fell", x.line(0, 9), 1100);
    x.fall(0);
    x.tick(1);
    x.rise(0);
    x.tick(1);
    Due.is("SENDING: it counts on", x.line(0, 9), 1100);
    x.tick(1);
    Due.is("SENDING: and is forgotten", x.line(0, 9), 1600);
  }

  private static void sendingStopsAt200() {
    BundleLine x = new BundleLine();
    x.open(1, 1000, 10);
    x.cut(1);
    Due.frameOfSize(x, 300);
    x.tick(5);
    Due.is("SENDING: 200 UNDER WAY", x.line(0, 6), 200);
    Due.is("SENDING: CARRIED", x.line(0, 9), 200);
    x.tick(5);
    Due.is("SENDING: none more", x.line(0, 9), 200);
    Due.is("SENDING: 40 wait", x.line(0, 4), 40);
    // The first 40 come at TIME 11, behind SENDING.
    x.tick(1);
    Due.is("SENDING: 160 UNDER WAY", x.line(0, 6), 160);
    Due.is("SENDING: not in this tick", x.line(0, 9), 200);
    x.tick(1);
    Due.is("SENDING: 40 more, as 40 come", x.line(0, 9), 240);

    BundleLine y = new BundleLine();
    y.open(1, 39, 40);
    y.cut(1);
    Due.frameOfSize(y, 199);
    y.cut(250);
    Due.frameOfSize(y, 300);
    y.tick(20);
    // 199 of one byte and one of 250, then no byte of the last one.
    Due.is("SENDING: 449 bytes", y.line(0, 9), 449);
    Due.is("SENDING: the last one waits", y.line(0, 5), 50);
    Due.is("SENDING: no EMPTY", y.line(0, 11), 0);
  }

  private static void comingTellsWhatWasLost() {
    BundleLine x = new BundleLine();
    x.open(2, 10, 2);
    x.cut(5);
    Due.frameOfSize(x, 30);
    x.tick(1);
    x.lose(0);
    x.bend(0, 1, 7);
    x.tick(2);
    // Both of the first tick are no more; nothing is known yet.
    Due.is("COMING: SEEN 0", x.line(0, 8), 0);
    Due.is("COMING: none LOST", x.status(6), 0);
    Due.is("COMING: one refused", x.line(0, 12), 1);
    x.tick(1);
    Due.is("COMING: SEEN 4", x.line(0, 8), 4);
    Due.is("COMING: two LOST", x.status(6), 2);
    Due.is("COMING: 0 LOST", x.piece(0, 0), 2);
    Due.is("COMING: 1 LOST", x.piece(1, 0), 2);
    Due.is("COMING: 2 THERE", x.piece(2, 0), 3);
    Due.is("COMING: how often", x.line(0, 10), 2);
    Due.is("COMING: on a line", x.lostOn(1, 0), 1);
    Due.is("COMING: laid again", x.tick(3), 1);
    Due.is("COMING: twice", x.piece(0, 3), 2);
    Due.is("COMING: as it was sent", x.got(0, 6), 1);
  }

  private static void comingKeepsTheOrderOfFrames() {
    BundleLine x = new BundleLine();
    x.open(0, 250, 10);
    x.open(1, 20, 1);
    Due.frameOfSize(x, 240);
    Due.frameOfSize(x, 20);
    x.tick(5);
    Due.is("COMING: the second frame is THERE", x.frameOf(1, 3), 1);
    Due.is("COMING: and waits", x.status(3), 0);
    Due.is("COMING: skew", x.skew(), 1);
    Due.is("COMING: both", x.tick(6), 2);
    Due.is("COMING: the first at 11", x.frameOf(0, 4), 11);
    Due.is("COMING: the second at 11", x.frameOf(1, 4), 11);
    Due.is("COMING: CREDIT", x.credit(), 8000);
  }

  private static void comingAfterManyCounts() {
    BundleLine x = new BundleLine();
    x.open(2, 40, 3);
    x.cut(1);
    for (int i = 0; i < 50; i++) {
      Due.frameOfSize(x, 40);
      x.tick(1);
      if (x.line(0, 6) > 1) {
        x.lose(0);
        x.lose(0);
      }
    }
    x.tick(60);
    Due.is("COMING: all frames", x.status(3), 50);
    Due.is("COMING: each piece once more as often as it was lost", x.line(0, 7), 2000 + x.line(0, 10));
    Due.is("COMING: two after each tick", x.line(0, 10), 100);
  }

  private static void restingNeedsAnEmptyLine() {
    BundleLine x = new BundleLine();
    x.open(3, 10, 3);
    x.cut(10);
    Due.frameOfSize(x, 20);
    x.tick(1);
    x.lose(0);
    x.tick(3);
    // 0 is no more, 1 is UNDER WAY.
    Due.is("RESTING: not yet", x.status(12), 0);
    x.lose(0);
    x.tick(1);
    Due.is("RESTING: an EMPTY", x.queued(0, 0), -2);
    Due.is("RESTING: its byte waits", x.line(0, 5), 1);
    x.tick(1);
    Due.is("RESTING: it is UNDER WAY", x.under(0, 0, 0), -2);
    Due.is("RESTING: its count", x.under(0, 0, 1), 2);
    Due.is("RESTING: one is enough", x.status(12), 1);
    x.tick(3);
    Due.is("RESTING: it tells of both", x.status(6), 2);
    Due.is("RESTING: SEEN is COUNT", x.line(0, 8), 3);
    x.tick(20);
    Due.is("RESTING: all is seen", x.status(12), 1);
    Due.is("RESTING: GIVEN", x.status(3), 1);
    Due.is("RESTING: no piece without a number", x.status(4), 2);
    Due.is("RESTING: an EMPTY's byte is CARRIED", x.line(0, 9), 41);
  }

  private static void restingOnEachLine() {
    BundleLine x = new BundleLine();
    x.open(2, 10, 1);
    x.open(2, 10, 1);
    x.cut(10);
    Due.frameOfSize(x, 20);
    x.tick(1);
    Due.is("RESTING: on line 0", x.lose(0), 0);
    Due.is("RESTING: on line 1", x.lose(1), 1);
    x.tick(1);
    Due.is("RESTING: one on line 0", x.line(0, 11), 1);
    Due.is("RESTING: one on line 1", x.line(1, 11), 1);
    Due.is("RESTING: two in all", x.status(12), 2);
  }

  private static void linesThatAreNotUpRest() {
    BundleLine x = new BundleLine();
    x.open(2, 10, 1);
    x.cut(10);
    Due.frameOfSize(x, 10);
    x.tick(1);
    x.lose(0);
    x.fall(0);
    x.tick(5);
    Due.is("not UP: nothing is laid", x.line(0, 4), 0);
    Due.is("not UP: no EMPTY", x.status(12), 0);
    Due.is("not UP: LOST", x.waits(0), 0);
    x.rise(0);
    Due.is("UP: it goes", x.tick(2), 1);
    Due.is("UP: no EMPTY", x.status(12), 0);
    Due.is("UP: got", x.got(0, 9), 1);
    Due.is("UP: no such piece", x.queued(0, 0), NONE);
  }
}
