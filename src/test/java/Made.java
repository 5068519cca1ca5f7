/** Objects with just what a test asks about. */
final class Made {
  private Made() {}

  static BundleLine withLine(int kind, int speed, int delay) {
    BundleLine x = new BundleLine();
    x.open(kind, speed, delay);
    return x;
  }

  static BundleLine withLines(int many) {
    BundleLine x = new BundleLine();
    for (int i = 0; i < many; i++) {
      x.open(3, 1000, 1);
    }
    return x;
  }

  static BundleLine withTray(int size) {
    BundleLine x = new BundleLine();
    if (size > 0) {
      x.type(1, 1);
      x.grow(size);
    }
    return x;
  }

  static BundleLine withTwoUnderWay(int kind) {
    BundleLine x = withLine(kind, 250, 1);
    x.cut(2);
    Due.frameOfSize(x, 3);
    x.tick(1);
    return x;
  }

  static BundleLine withEmptyUnderWay(int kind) {
    BundleLine x = withLine(kind, 250, 1);
    x.type(1, 1);
    x.frame();
    x.tick(1);
    x.bend(0, 0, 1);
    x.tick(2);
    return x;
  }

  static BundleLine withTwoPieces() {
    BundleLine x = withTray(3);
    x.cut(2);
    x.frame();
    return x;
  }

  static BundleLine withTwoQueued() {
    BundleLine x = withLine(1, 1, 1);
    x.cut(2);
    Due.frameOfSize(x, 4);
    x.tick(1);
    return x;
  }

  static BundleLine withThreeOnAWay() {
    BundleLine x = withLine(1, 1, 1);
    x.cut(1);
    Due.frameOfSize(x, 3);
    return x;
  }

  static BundleLine withTwoFramesGiven() {
    BundleLine x = withLine(0, 1000, 1);
    x.cut(1);
    Due.frameOfSize(x, 2);
    Due.frameOfSize(x, 2);
    x.tick(2);
    return x;
  }

  /** Frame 0 is LOST; all of frames 1 and 2 is THERE. All are GIVEN two ticks later, at TIME 4. */
  static BundleLine withTwoBehindOneThatIsLost() {
    BundleLine x = withLine(2, 3, 1);
    Due.smallFrames(x, 3);
    x.tick(1);
    x.lose(0);
    x.tick(1);
    return x;
  }

  /** Frame 0, of 50 pieces and 250 bytes, is GIVEN at TIME 3; frames that come have pieces of 1. */
  static BundleLine withAGreatFrameGiven() {
    BundleLine x = withLine(2, 1000, 1);
    x.cut(5);
    Due.frameOfSize(x, 250);
    x.tick(3);
    x.cut(1);
    return x;
  }
}
