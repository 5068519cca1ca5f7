import java.util.ArrayList;
import java.util.List;

/** An object in the midst of its work, and all that it answers: so that two can be told apart. */
final class Scene {
  private Scene() {}

  /**
   * Six lines, one of them not UP; pieces that are NEW, LAID, LOST and THERE; an EMPTY and marks
   * UNDER WAY; a piece sent in part; three bytes in the TRAY; a frame that was GIVEN; one REFUSAL of
   * each number. TIME is 8.
   */
  static BundleLine made() {
    BundleLine x = new BundleLine();
    openLines(x);
    x.room(5000);
    x.cut(10);
    x.type(0x41, 1);
    x.frame();
    x.tick(3);
    x.type(0x42434445, 4);
    x.frame();
    x.tick(1);
    x.lose(4);
    x.tick(2);
    for (int line = 1; line < 4; line++) {
      x.rise(line);
    }
    Due.frameOfSize(x, 65);
    x.tick(1);
    x.rise(0);
    Due.frameOfSize(x, 20);
    x.tick(1);
    x.lose(2);
    x.bend(0, 0, 5);
    x.fall(3);
    x.rise(3);
    Due.frameOfSize(x, 12);
    x.type(0x0A0B0C, 3);
    refuseEach(x);
    return x;
  }

  /** A piece of frame 0 goes over line 4, as it is the only one that is UP at first. */
  private static void openLines(BundleLine x) {
    x.open(0, 250, 3);
    x.open(1, 7, 1);
    x.open(2, 12, 4);
    x.open(3, 5, 2);
    x.open(2, 10, 2);
    x.open(1, 9, 1);
    x.lease(3, 260, 5);
    for (int line = 0; line < 6; line++) {
      if (line != 4) {
        x.fall(line);
      }
    }
  }

  private static void refuseEach(BundleLine x) {
    x.rise(6);
    x.open(4, 1, 1);
    x.got(0, 1);
    x.cut(0);
    x.rise(0);
    x.cut(251);
  }

  /** What comes of the object later: what no question tells is told by that. */
  static void goOn(BundleLine x) {
    x.tick(1);
    x.frame();
    x.rise(5);
    x.tick(2);
    x.type(0x70, 1);
    x.frame();
    x.tick(40);
  }

  /** The answers to all questions but those for REFUSALS. */
  static int[] answers(BundleLine x) {
    List<Integer> all = new ArrayList<>();
    for (int what = 0; what <= 12; what++) {
      all.add(x.status(what));
    }
    all.add(x.credit());
    all.add(x.skew());
    for (int line = 0; line < x.status(1); line++) {
      addLine(all, x, line);
    }
    for (int piece = 0; piece < Math.min(20, x.status(4)); piece++) {
      addPiece(all, x, piece);
    }
    for (int i = 0; i < Math.min(5, x.status(6) + x.status(7)); i++) {
      all.add(x.waits(i));
    }
    for (int frame = 0; frame < Math.min(10, x.status(2)); frame++) {
      addFrame(all, x, frame);
    }
    return all.stream().mapToInt(Integer::intValue).toArray();
  }

  private static void addLine(List<Integer> all, BundleLine x, int line) {
    for (int what = 0; what <= 14; what++) {
      all.add(x.line(line, what));
    }
    for (int k = 0; k < Math.min(5, x.line(line, 4)); k++) {
      all.add(x.queued(line, k));
    }
    for (int k = 0; k < Math.min(5, x.line(line, 6)); k++) {
      for (int what = 0; what <= 3; what++) {
        all.add(x.under(line, k, what));
      }
    }
  }

  private static void addPiece(List<Integer> all, BundleLine x, int piece) {
    for (int what = 0; what <= 6; what++) {
      all.add(x.piece(piece, what));
    }
    for (int line = 0; line < x.status(1); line++) {
      all.add(x.lostOn(piece, line));
    }
  }

  /** It asks for bytes only where there are some: so that nothing is refused. */
  private static void addFrame(List<Integer> all, BundleLine x, int frame) {
    for (int what = 0; what <= 4; what++) {
      all.add(x.frameOf(frame, what));
    }
    for (int k = 0; k < Math.min(7, x.frameOf(frame, 2)); k++) {
      all.add(x.witness(frame, k));
    }
    boolean isKept = frame < x.status(3) && frame >= x.status(3) - 20;
    int bytes = isKept ? x.got(frame, -1) : 0;
    for (int i = 0; i < Math.min(9, bytes); i++) {
      all.add(x.got(frame, i));
    }
  }
}
