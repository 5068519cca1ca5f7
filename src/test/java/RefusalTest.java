import java.util.Arrays;
import java.util.function.Consumer;
import java.util.function.Supplier;
import java.util.function.ToIntFunction;

/**
 * REFUSALS: each one answers its number, the first that fits in their order, and nothing changes by
 * it but how many there were. An object on which it was tried and one on which it was not must
 * answer all questions alike, at once and after many more calls. NONE, -9, and false are no
 * REFUSALS: they change nothing at all.
 */
final class RefusalTest {
  private static final int LOWEST = Due.LOWEST;
  private static final int HIGHEST = Due.HIGHEST;
  private static final Consumer<BundleLine> NOTHING = x -> { };

  private RefusalTest() {}

  public static void main(String[] args) {
    theSceneHasAll();
    ofOpen();
    ofLease();
    ofType();
    ofGrow();
    ofFrame();
    ofCutAndRoom();
    ofTick();
    ofLose();
    ofBend();
    ofFallAndRise();
    ofGot();
    noneIsNoRefusal();
    falseIsNoRefusal();
    answersBelow0AreNoRefusals();
    questionsChangeNothing();
    eachNumberIsCountedAlone();
    Due.end();
  }

  // ---- what is held against each other

  private static void refused(String name, int answer, ToIntFunction<BundleLine> call) {
    refusedOn(name, answer, NOTHING, call);
  }

  private static void refusedOn(
      String name, int answer, Consumer<BundleLine> first, ToIntFunction<BundleLine> call) {
    refusedAt(name, answer, () -> sceneAfter(first), call);
  }

  private static BundleLine sceneAfter(Consumer<BundleLine> first) {
    BundleLine x = Scene.made();
    first.accept(x);
    return x;
  }

  private static void refusedAt(
      String name, int answer, Supplier<BundleLine> made, ToIntFunction<BundleLine> call) {
    BundleLine tried = made.get();
    BundleLine left = made.get();
    Due.is(name, call.applyAsInt(tried), answer);
    isOneMore(name, answer, Due.refusals(tried), Due.refusals(left));
    isSame(name + ", at once", tried, left);

    BundleLine triedLater = made.get();
    BundleLine leftLater = made.get();
    call.applyAsInt(triedLater);
    Scene.goOn(triedLater);
    Scene.goOn(leftLater);
    isSame(name + ", later", triedLater, leftLater);
    isOneMore(name + ", later", answer, Due.refusals(triedLater), Due.refusals(leftLater));
  }

  private static void isOneMore(String name, int answer, int[] tried, int[] left) {
    for (int i = 0; i < 6; i++) {
      int more = i == -answer - 1 ? 1 : 0;
      Due.is(name + ", REFUSALS " + (-i - 1), tried[i], left[i] + more);
    }
  }

  private static void isSame(String name, BundleLine tried, BundleLine left) {
    int[] got = Scene.answers(tried);
    int[] want = Scene.answers(left);
    Due.is(name + ": nothing changes, first at " + Arrays.mismatch(got, want),
        Arrays.equals(got, want), true);
  }

  /** Otherwise the tests below would hold nothing. */
  private static void theSceneHasAll() {
    BundleLine x = Scene.made();
    Due.row("scene: status", Due.status(x, 0, 1, 2, 3, 4, 5, 6, 7, 8), 8, 6, 5, 1, 13, 1, 1, 2, 3);
    Due.row("scene: REFUSALS", Due.refusals(x), 1, 1, 1, 1, 1, 1);
    Due.is("scene: sent in part", x.line(1, 5), 6);
    Due.row("scene: UP", Due.line(x, 4, 3, 6), 1, 3);
    Due.is("scene: an EMPTY UNDER WAY", x.under(4, 0, 0), -2);
    Due.is("scene: one that is lost", x.under(2, 0, 3), 1);
    Due.is("scene: one that is bent", x.under(0, 0, 3), 2);
    Due.is("scene: not UP", x.line(5, 3), 0);
    Scene.goOn(x);
    Due.is("scene: all frames are GIVEN", x.status(3), 7);
    Due.is("scene: of the TRAY as it was", x.got(5, 2), 12);
  }

  // ---- 2 to 8

  private static void ofOpen() {
    refused("open: no such KIND", -2, x -> x.open(-1, 250, 1));
    refused("open: no such KIND above", -2, x -> x.open(4, 250, 1));
    refused("open: speed 0", -4, x -> x.open(1, 0, 1));
    refused("open: STEADY, speed 249", -4, x -> x.open(0, 249, 1));
    refused("open: delay 0", -4, x -> x.open(2, 1, 0));
    refused("open: speed 1001", -6, x -> x.open(3, 1001, 1));
    refused("open: delay 41", -6, x -> x.open(0, 250, 41));
    Consumer<BundleLine> eight = x -> {
      x.open(0, 250, 1);
      x.open(0, 250, 1);
    };
    refusedOn("open: the ninth", -6, eight, x -> x.open(0, 250, 1));

    refused("open: KIND and speed below", -2, x -> x.open(4, 0, 1));
    refused("open: KIND and delay below", -2, x -> x.open(4, 1, 0));
    refused("open: KIND and speed above", -2, x -> x.open(-1, 1001, 1));
    refused("open: KIND and delay above", -2, x -> x.open(-1, 1, 41));
    refusedOn("open: KIND and the ninth", -2, eight, x -> x.open(4, 250, 1));
    refused("open: speed below and delay above", -4, x -> x.open(1, 0, 41));
    refused("open: STEADY, speed below and delay above", -4, x -> x.open(0, 249, 41));
    refused("open: delay below and speed above", -4, x -> x.open(1, 1001, 0));
    refusedOn("open: speed below and the ninth", -4, eight, x -> x.open(0, 249, 1));
    refusedOn("open: delay below and the ninth", -4, eight, x -> x.open(0, 250, 0));
  }

  private static void ofLease() {
    refused("lease: line -1", -1, x -> x.lease(-1, 250, 1));
    refused("lease: line 6", -1, x -> x.lease(6, 250, 1));
    refused("lease: STEADY", -2, x -> x.lease(0, 250, 1));
    refused("lease: SLOW", -2, x -> x.lease(1, 250, 1));
    refused("lease: SHAKY", -2, x -> x.lease(2, 250, 1));
    refused("lease: allowance 249", -4, x -> x.lease(3, 249, 1));
    refused("lease: span 0", -4, x -> x.lease(3, 250, 0));
    refused("lease: allowance 20001", -6, x -> x.lease(3, 20001, 1));
    refused("lease: span 21", -6, x -> x.lease(3, 250, 21));

    refused("lease: line and below", -1, x -> x.lease(6, 249, 0));
    refused("lease: line and above", -1, x -> x.lease(LOWEST, 20001, 21));
    refused("lease: KIND and below", -2, x -> x.lease(0, 249, 0));
    refused("lease: KIND and above", -2, x -> x.lease(1, 20001, 21));
    refused("lease: allowance below, span above", -4, x -> x.lease(3, 249, 21));
    refused("lease: allowance above, span below", -4, x -> x.lease(3, 20001, 0));
  }

  private static void ofType() {
    refused("type: n 0", -4, x -> x.type(-1, 0));
    refused("type: n lowest", -4, x -> x.type(-1, LOWEST));
    refused("type: n 9", -6, x -> x.type(-1, 9));
    refused("type: n highest", -6, x -> x.type(-1, HIGHEST));
    refusedOn("type: 4001 bytes", -6, x -> x.grow(3993), x -> x.type(-1, 8));
    refusedOn("type: a full TRAY", -6, x -> x.grow(4000), x -> x.type(-1, 1));
    refusedOn("type: a full TRAY and n 0", -4, x -> x.grow(4000), x -> x.type(-1, 0));
    refusedOn("type: a full TRAY and n 9", -6, x -> x.grow(4000), x -> x.type(-1, 9));
  }

  private static void ofGrow() {
    refusedOn("grow: empty", -3, BundleLine::frame, x -> x.grow(5));
    refused("grow: below", -4, x -> x.grow(2));
    refused("grow: above", -6, x -> x.grow(4001));
    refusedOn("grow: empty and below", -3, BundleLine::frame, x -> x.grow(-1));
    refusedOn("grow: empty and lowest", -3, BundleLine::frame, x -> x.grow(LOWEST));
    refusedOn("grow: empty and above", -3, BundleLine::frame, x -> x.grow(4001));
    refusedOn("grow: a full TRAY, below", -4, x -> x.grow(4000), x -> x.grow(3999));
    refusedOn("grow: a full TRAY, above", -6, x -> x.grow(4000), x -> x.grow(4001));
  }

  private static BundleLine withHundredFrames() {
    BundleLine x = new BundleLine();
    Due.smallFrames(x, 100);
    return x;
  }

  private static BundleLine withAllPieces() {
    BundleLine x = new BundleLine();
    x.cut(1);
    x.type(1, 1);
    x.grow(3000);
    x.frame();
    return x;
  }

  private static void ofFrame() {
    refusedOn("frame: empty", -3, BundleLine::frame, BundleLine::frame);
    refusedAt("frame: empty and 100 not GIVEN", -3,
        RefusalTest::withHundredFrames, BundleLine::frame);
    refusedAt("frame: empty and 3000 pieces", -3, RefusalTest::withAllPieces, BundleLine::frame);
    Supplier<BundleLine> hundred = () -> {
      BundleLine x = withHundredFrames();
      x.type(0x0A0B0C, 3);
      return x;
    };
    refusedAt("frame: 100 not GIVEN", -6, hundred, BundleLine::frame);
    Supplier<BundleLine> pieces = () -> {
      BundleLine x = withAllPieces();
      x.type(0x0A0B0C, 3);
      return x;
    };
    refusedAt("frame: 3000 pieces", -6, pieces, BundleLine::frame);
  }

  private static void ofCutAndRoom() {
    refused("cut: 0", -4, x -> x.cut(0));
    refused("cut: lowest", -4, x -> x.cut(LOWEST));
    refused("cut: 251", -6, x -> x.cut(251));
    refused("cut: highest", -6, x -> x.cut(HIGHEST));
    refused("room: 3999", -4, x -> x.room(3999));
    refused("room: lowest", -4, x -> x.room(LOWEST));
    refused("room: 20001", -6, x -> x.room(20001));
    refused("room: highest", -6, x -> x.room(HIGHEST));
  }

  // ---- 9 to 13

  private static BundleLine atTheEndOfTime() {
    BundleLine x = new BundleLine();
    x.open(1, 1, 1);
    for (int i = 0; i < 199; i++) {
      x.tick(100);
    }
    x.tick(98);
    x.type(1, 1);
    x.frame();
    return x;
  }

  private static void ofTick() {
    refused("tick: 0", -4, x -> x.tick(0));
    refused("tick: lowest", -4, x -> x.tick(LOWEST));
    refused("tick: 101", -6, x -> x.tick(101));
    refused("tick: highest", -6, x -> x.tick(HIGHEST));
    refusedAt("tick: TIME 20001", -6, RefusalTest::atTheEndOfTime, x -> x.tick(3));
    refusedAt("tick: TIME 20098", -6, RefusalTest::atTheEndOfTime, x -> x.tick(100));
    refusedAt("tick: TIME and above", -6, RefusalTest::atTheEndOfTime, x -> x.tick(101));
    Supplier<BundleLine> ended = () -> {
      BundleLine x = atTheEndOfTime();
      x.tick(2);
      return x;
    };
    refusedAt("tick: TIME is 20000", -6, ended, x -> x.tick(1));
    refusedAt("tick: TIME is 20000 and below", -4, ended, x -> x.tick(0));
  }

  private static void loseTwo(BundleLine x) {
    x.lose(2);
    x.lose(2);
  }

  private static void ofLose() {
    refused("lose: line -1", -1, x -> x.lose(-1));
    refused("lose: line 6", -1, x -> x.lose(6));
    refused("lose: STEADY", -2, x -> x.lose(0));
    refused("lose: SLOW", -2, x -> x.lose(1));
    refused("lose: LEASED, nothing there", -5, x -> x.lose(3));
    refusedOn("lose: SHAKY, all made to be lost", -5, RefusalTest::loseTwo, x -> x.lose(2));
    refusedOn("lose: STEADY, nothing there", -2, x -> x.fall(0), x -> x.lose(0));
    refused("lose: SLOW, not UP", -2, x -> x.lose(5));
  }

  private static void bendAll(BundleLine x) {
    x.bend(0, 0, 1);
    x.bend(2, 0, 1);
  }

  private static void ofBend() {
    refused("bend: line -1", -1, x -> x.bend(-1, 0, 1));
    refused("bend: line 6", -1, x -> x.bend(6, 0, 1));
    refused("bend: mask 0", -4, x -> x.bend(0, 0, 0));
    refused("bend: mask 256", -6, x -> x.bend(0, 0, 256));
    refused("bend: nothing there", -5, x -> x.bend(3, 0, 1));
    refusedOn("bend: all bent", -5, RefusalTest::bendAll, x -> x.bend(0, 0, 1));
    refusedOn("bend: all bent or lost", -5, RefusalTest::bendAll, x -> x.bend(2, 0, 1));
    refused("bend: an EMPTY", -2, x -> x.bend(4, 0, 1));
    refused("bend: byte -1", -3, x -> x.bend(0, -1, 1));
    refused("bend: byte 10 of 10", -3, x -> x.bend(0, 10, 1));

    refused("bend: line and all others", -1, x -> x.bend(6, -1, 0));
    refused("bend: line and mask above", -1, x -> x.bend(6, 0, 256));
    refused("bend: mask below and nothing there", -4, x -> x.bend(3, -1, 0));
    refused("bend: mask below and an EMPTY", -4, x -> x.bend(4, -1, 0));
    refused("bend: mask below and no such byte", -4, x -> x.bend(0, 10, 0));
    refused("bend: mask above and nothing there", -6, x -> x.bend(3, -1, 256));
    refused("bend: mask above and an EMPTY", -6, x -> x.bend(4, -1, 256));
    refused("bend: mask above and no such byte", -6, x -> x.bend(0, 10, 256));
    refused("bend: nothing there and no such byte", -5, x -> x.bend(3, -1, 1));
    refused("bend: an EMPTY and no such byte", -2, x -> x.bend(4, -1, 1));
    refused("bend: an EMPTY and no such byte above", -2, x -> x.bend(4, 1, 1));
  }

  private static void ofFallAndRise() {
    refused("fall: line -1", -1, x -> x.fall(-1));
    refused("fall: line 6", -1, x -> x.fall(6));
    refused("fall: not UP", -5, x -> x.fall(5));
    refused("rise: line -1", -1, x -> x.rise(-1));
    refused("rise: line 6", -1, x -> x.rise(6));
    refused("rise: UP, it sends", -5, x -> x.rise(1));
    refused("rise: UP, it rests", -5, x -> x.rise(3));
  }

  // ---- 20

  private static BundleLine withFramesNotKept() {
    BundleLine x = new BundleLine();
    x.open(0, 1000, 1);
    Due.smallFrames(x, 21);
    x.tick(2);
    return x;
  }

  private static void ofGot() {
    refused("got: frame -1", -1, x -> x.got(-1, 0));
    refused("got: frame 5", -1, x -> x.got(5, 0));
    refused("got: not GIVEN", -3, x -> x.got(1, 0));
    refused("got: not GIVEN, how many", -3, x -> x.got(1, -1));
    refused("got: byte 1 of 1", -3, x -> x.got(0, 1));
    refused("got: byte -2", -3, x -> x.got(0, -2));
    refusedAt("got: not kept", -3, RefusalTest::withFramesNotKept, x -> x.got(0, 0));
    refusedAt("got: not kept, how many", -3, RefusalTest::withFramesNotKept, x -> x.got(0, -1));

    refused("got: no such frame, no such byte", -1, x -> x.got(5, -2));
    refused("got: not GIVEN, no such byte", -3, x -> x.got(1, 4));
  }

  // ---- what is no REFUSAL

  private static void noneIsNoRefusal() {
    none("line -1", x -> x.line(-1, 0));
    none("line 6", x -> x.line(6, 0));
    none("line, what -1", x -> x.line(0, -1));
    none("line, what 15", x -> x.line(0, 15));
    none("piece -1", x -> x.piece(-1, 0));
    none("piece 13", x -> x.piece(13, 0));
    none("piece, what -1", x -> x.piece(0, -1));
    none("piece, what 7", x -> x.piece(0, 7));
    none("piece, not laid", x -> x.piece(12, 4));
    none("lostOn, piece 13", x -> x.lostOn(13, 0));
    none("lostOn, line 6", x -> x.lostOn(0, 6));
    none("queued, line 6", x -> x.queued(6, 0));
    none("queued, k 1 of 1", x -> x.queued(1, 1));
    none("under, line 6", x -> x.under(6, 0, 0));
    none("under, k 2 of 2", x -> x.under(0, 2, 0));
    none("under, what 4", x -> x.under(0, 0, 4));
    none("waits 3 of 3", x -> x.waits(3));
    none("waits -1", x -> x.waits(-1));
    none("frameOf 5", x -> x.frameOf(5, 0));
    none("frameOf, what 5", x -> x.frameOf(0, 5));
    none("frameOf, not GIVEN", x -> x.frameOf(1, 4));
    none("witness, frame 5", x -> x.witness(5, 0));
    none("witness, not GIVEN", x -> x.witness(1, 0));
    none("witness, k 1 of 1", x -> x.witness(0, 1));
    none("status 13", x -> x.status(13));
    none("status 20", x -> x.status(20));
    none("status 27", x -> x.status(27));
  }

  private static void none(String name, ToIntFunction<BundleLine> question) {
    noRefusal(name, Due.NONE, question);
  }

  private static void noRefusal(String name, int answer, ToIntFunction<BundleLine> question) {
    BundleLine tried = Scene.made();
    BundleLine left = Scene.made();
    Due.is(name, question.applyAsInt(tried), answer);
    Due.row(name + ", REFUSALS", Due.refusals(tried), Due.refusals(left));
    isSame(name, tried, left);
  }

  private static void falseIsNoRefusal() {
    noRefusal("check, frame -1", 0, x -> x.check(-1, 0) ? 1 : 0);
    noRefusal("check, frame 5", 0, x -> x.check(5, 0) ? 1 : 0);
    noRefusal("check, not GIVEN", 0, x -> x.check(1, 0) ? 1 : 0);
    noRefusal("check, another sum", 0, x -> x.check(0, 105) ? 1 : 0);
    noRefusal("check, the sum", 1, x -> x.check(0, 104) ? 1 : 0);
    noRefusal("under, -2 for an EMPTY", -2, x -> x.under(4, 0, 0));
  }

  /** NONE for an EMPTY, -2 for an EMPTY, CREDIT and skew below 0. */
  private static void answersBelow0AreNoRefusals() {
    BundleLine x = Scene.made();
    int[] before = Due.refusals(x);
    Due.is("lose, NONE for an EMPTY", x.lose(4), -9);
    Due.is("under, -2 for an EMPTY", x.under(4, 0, 0), -2);
    Due.row("an EMPTY, REFUSALS", Due.refusals(x), before);

    BundleLine y = new BundleLine();
    y.open(0, 250, 1);
    Due.frameOfSize(y, 4000);
    Due.frameOfSize(y, 250);
    y.tick(2);
    y.bend(0, 0, 1);
    y.room(4000);
    Due.is("skew, -1", y.skew(), -1);
    Due.is("credit, below 0", y.credit(), -250);
    y.fall(0);
    y.rise(0);
    y.tick(40);
    Due.row("skew and credit, REFUSALS", Due.refusals(y), 0, 0, 0, 0, 0, 0);

    BundleLine z = new BundleLine();
    z.open(0, 250, 1);
    z.type(1, 1);
    z.frame();
    z.tick(1);
    z.bend(0, 0, 1);
    z.tick(1);
    Due.is("queued, -2 for an EMPTY", z.queued(0, 0), -2);
    Due.row("queued, REFUSALS", Due.refusals(z), 0, 0, 0, 0, 0, 0);
  }

  private static void questionsChangeNothing() {
    BundleLine tried = Scene.made();
    BundleLine left = Scene.made();
    Scene.answers(tried);
    Due.row("questions, REFUSALS", Due.refusals(tried), Due.refusals(left));
    Scene.goOn(tried);
    Scene.goOn(left);
    Due.row("questions, later", Due.refusals(tried), Due.refusals(left));
    Due.row("questions, status", Due.status(tried, 0, 3, 5, 9), Due.status(left, 0, 3, 5, 9));
  }

  private static void eachNumberIsCountedAlone() {
    BundleLine x = new BundleLine();
    int[] times = {3, 5, 2, 7, 4, 6};
    x.open(0, 250, 1);
    for (int round = 0; round < 7; round++) {
      if (round < times[0]) {
        Due.is("-1", x.lose(1), -1);
      }
      if (round < times[1]) {
        Due.is("-2", x.lose(0), -2);
      }
      if (round < times[2]) {
        Due.is("-3", x.frame(), -3);
      }
      if (round < times[3]) {
        Due.is("-4", x.tick(0), -4);
      }
      if (round < times[4]) {
        Due.is("-5", x.rise(0), -5);
      }
      if (round < times[5]) {
        Due.is("-6", x.tick(101), -6);
      }
    }
    Due.row("26: 21 .. 26", Due.refusals(x), times);
  }
}
