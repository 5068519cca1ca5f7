import java.util.Arrays;

/**
 * One row of frames over eight lines of unlike speed and delay: frames are cut into pieces, each
 * goes over one line, what is lost is found out and goes again, and the far end gives the frames in
 * the order in which they were sent.
 */
public final class BundleLine {
  private static final int NOBODY = -1;
  private static final int OTHER = -2;
  private static final int BEYOND = -3;
  private static final int BELOW = -4;
  private static final int STATE = -5;
  private static final int ABOVE = -6;
  private static final int NONE = -9;

  private static final int STEADY = 0;
  private static final int SHAKY = 2;
  private static final int LEASED = 3;

  private static final int NEW = 0;
  private static final int LAID = 1;
  private static final int LOST = 2;
  private static final int THERE = 3;

  /** Stands where a piece's number would stand. */
  private static final int EMPTY = -2;

  private static final int MADE_LOST = 1;
  private static final int BENT = 2;

  private static final int MOST_LINES = 8;
  private static final int LEAST_STEADY_SPEED = 250;
  private static final int MOST_SPEED = 1000;
  private static final int MOST_DELAY = 40;
  private static final int LEAST_ALLOWANCE = 250;
  private static final int MOST_ALLOWANCE = 20000;
  private static final int MOST_SPAN = 20;
  private static final int MOST_QUEUED = 40;
  private static final int MOST_UNDER_WAY = 200;
  private static final int MOST_TRAY = 4000;
  private static final int MOST_FRAMES = 300;
  private static final int MOST_NOT_GIVEN = 100;
  private static final int KEPT_FRAMES = 20;
  private static final int MOST_PIECES = 3000;
  private static final int MOST_CUT = 250;
  private static final int LEAST_ROOM = 4000;
  private static final int MOST_ROOM = 20000;
  private static final int MOST_TICKS = 100;
  private static final int MOST_TIME = 20000;

  private final Line[] lines;
  private int lineCount;
  private final Frame[] frames;
  private int frameCount;
  private int givenFrames;
  private int givenPieces;
  private int givenBytes;
  private final Piece[] pieces;
  private int pieceCount;
  private int firstNew;
  /** How many pieces are NEW, LAID, LOST, THERE. */
  private final int[] inState;
  private final byte[] tray;
  private int trayLength;
  private int cutSize;
  private int roomSize;
  /** The bytes that ROOM is less by. */
  private int heldBytes;
  private int time;
  /** By the answer's number without its sign. */
  private final int[] refusals;

  public BundleLine() {
    lines = new Line[MOST_LINES];
    frames = new Frame[MOST_FRAMES];
    pieces = new Piece[MOST_PIECES];
    inState = new int[THERE + 1];
    tray = new byte[MOST_TRAY];
    cutSize = MOST_CUT;
    roomSize = 8000;
    refusals = new int[-ABOVE + 1];
  }

  // ---- the lines' making

  public int open(int kind, int speed, int delay) {
    if (kind < STEADY || kind > LEASED) {
      return refuse(OTHER);
    }
    int leastSpeed = kind == STEADY ? LEAST_STEADY_SPEED : 1;
    if (speed < leastSpeed || delay < 1) {
      return refuse(BELOW);
    }
    if (speed > MOST_SPEED || delay > MOST_DELAY || lineCount >= MOST_LINES) {
      return refuse(ABOVE);
    }
    lines[lineCount] = new Line(lineCount, kind, speed, delay);
    lineCount++;
    return lineCount - 1;
  }

  public int lease(int line, int allowance, int span) {
    Line leased = lineAt(line);
    if (leased == null) {
      return refuse(NOBODY);
    }
    if (leased.kind != LEASED) {
      return refuse(OTHER);
    }
    if (allowance < LEAST_ALLOWANCE || span < 1) {
      return refuse(BELOW);
    }
    if (allowance > MOST_ALLOWANCE || span > MOST_SPAN) {
      return refuse(ABOVE);
    }
    leased.allowance = allowance;
    leased.span = span;
    return 1;
  }

  // ---- the frames' making

  public int type(long w, int n) {
    if (n < 1) {
      return refuse(BELOW);
    }
    if (n > 8 || trayLength + n > MOST_TRAY) {
      return refuse(ABOVE);
    }
    for (int k = n - 1; k >= 0; k--) {
      tray[trayLength] = (byte) (w >>> (8 * k));
      trayLength++;
    }
    return trayLength;
  }

  public int grow(int n) {
    int had = trayLength;
    if (had < 1) {
      return refuse(BEYOND);
    }
    if (n < had) {
      return refuse(BELOW);
    }
    if (n > MOST_TRAY) {
      return refuse(ABOVE);
    }
    for (int i = had; i < n; i++) {
      tray[i] = tray[i - had];
    }
    trayLength = n;
    return had;
  }

  public int frame() {
    int size = trayLength;
    if (size < 1) {
      return refuse(BEYOND);
    }
    int row = piecesOf(size);
    boolean tooMany = frameCount >= MOST_FRAMES || pieceCount + row > MOST_PIECES;
    if (tooMany || frameCount - givenFrames >= MOST_NOT_GIVEN) {
      return refuse(ABOVE);
    }
    Frame made = new Frame(Arrays.copyOf(tray, size), pieceCount, row);
    frames[frameCount] = made;
    cutIntoPieces(made);
    frameCount++;
    trayLength = 0;
    return frameCount - 1;
  }

  private int piecesOf(int size) {
    return cutSize < 1 ? 0 : (size + cutSize - 1) / cutSize;
  }

  private void cutIntoPieces(Frame made) {
    for (int k = 0; k < made.row; k++) {
      int from = k * cutSize;
      int size = Math.min(cutSize, made.size - from);
      boolean isLast = k == made.row - 1;
      pieces[pieceCount] = new Piece(frameCount, size, isLast, made.sumOf(from, size));
      pieceCount++;
      countInState(NEW, 1);
    }
  }

  public int cut(int n) {
    if (n < 1) {
      return refuse(BELOW);
    }
    if (n > MOST_CUT) {
      return refuse(ABOVE);
    }
    int was = cutSize;
    cutSize = n;
    return was;
  }

  public int room(int n) {
    if (n < LEAST_ROOM) {
      return refuse(BELOW);
    }
    if (n > MOST_ROOM) {
      return refuse(ABOVE);
    }
    int was = roomSize;
    roomSize = n;
    return was;
  }

  // ---- a tick

  public int tick(int n) {
    if (n < 1) {
      return refuse(BELOW);
    }
    if (n > MOST_TICKS || time + n > MOST_TIME) {
      return refuse(ABOVE);
    }
    int before = givenFrames;
    for (int i = 0; i < n; i++) {
      time++;
      layLostPieces();
      layNewPieces();
      sendOnLines();
      takeWhatComes();
      restLines();
    }
    return givenFrames - before;
  }

  private void layLostPieces() {
    // The pieces of GIVEN frames are the lowest numbers, and all THERE.
    for (int i = givenPieces; i < firstNew && inState[LOST] > 0; i++) {
      Piece piece = pieceAt(i);
      if (piece != null && piece.state == LOST) {
        Line line = lineFor(piece);
        if (line == null) {
          return;
        }
        layOn(line, i, piece);
      }
    }
  }

  private void layNewPieces() {
    for (int i = firstNew; i < pieceCount; i++) {
      Piece piece = pieceAt(i);
      if (piece == null || piece.size > creditLeft()) {
        return;
      }
      Line line = lineFor(piece);
      if (line == null) {
        return;
      }
      heldBytes += piece.size;
      firstNew = i + 1;
      layOn(line, i, piece);
    }
  }

  private Line lineFor(Piece piece) {
    Line best = null;
    for (int i = 0; i < lineCount; i++) {
      Line line = lineAt(i);
      if (line != null && line.takesMore() && (best == null || isBetter(line, best, piece))) {
        best = line;
      }
    }
    return best;
  }

  /** A NEW piece was lost nowhere, so that the first test leaves it all lines. */
  private static boolean isBetter(Line line, Line best, Piece piece) {
    int losses = piece.lossesOn(line.number);
    int fewest = piece.lossesOn(best.number);
    if (losses != fewest) {
      return losses < fewest;
    }
    int ticks = line.ticksToSend(piece.size);
    int soonest = best.ticksToSend(piece.size);
    if (ticks != soonest) {
      return ticks < soonest;
    }
    return line.carried < best.carried;
  }

  private void layOn(Line line, int number, Piece piece) {
    become(piece, LAID);
    piece.tries++;
    piece.line = line.number;
    line.queue.add(number, piece.size);
  }

  private void sendOnLines() {
    for (int i = 0; i < lineCount; i++) {
      Line line = lineAt(i);
      if (line != null) {
        line.sendAt(time);
      }
    }
  }

  private void takeWhatComes() {
    for (int i = 0; i < lineCount; i++) {
      Line line = lineAt(i);
      if (line != null) {
        takeFrom(line);
      }
    }
    giveFrames();
  }

  private void takeFrom(Line line) {
    UnderWay way = line.underWay;
    for (int k = 0; k < MOST_UNDER_WAY && way.hasComeAt(time); k++) {
      int number = way.numberOf(0);
      int count = way.countOf(0);
      int marks = way.marksOf(0);
      way.dropFirst();
      if ((marks & MADE_LOST) != 0) {
        continue;
      }
      // One byte of it is another one, and each byte weighs in the SUM: so its SUM is not as it was.
      if ((marks & BENT) != 0) {
        line.refusedPieces++;
        continue;
      }
      loseUpTo(line, count);
      line.seen = count + 1;
      arrive(number);
    }
  }

  private void arrive(int number) {
    Piece piece = pieceAt(number);
    if (piece == null || piece.state == THERE) {
      return;
    }
    become(piece, THERE);
    Frame home = frameAt(piece.frame);
    if (home != null) {
      home.there++;
    }
  }

  /** What the line sent with counts from SEEN on and below this one is LOST. */
  private void loseUpTo(Line line, int count) {
    for (int c = line.seen; c < count; c++) {
      loseOn(line, line.sentWith(c));
    }
  }

  private void loseOn(Line line, int number) {
    Piece piece = pieceAt(number);
    if (piece == null || piece.state != LAID || piece.line != line.number) {
      return;
    }
    become(piece, LOST);
    piece.addLossOn(line.number);
    line.lostPieces++;
  }

  private void giveFrames() {
    for (int i = givenFrames; i < frameCount; i++) {
      Frame next = frameAt(i);
      if (next == null || next.there < next.row) {
        return;
      }
      next.givenAt = time;
      givenFrames = i + 1;
      givenPieces += next.row;
      givenBytes += next.size;
      heldBytes -= next.size;
    }
  }

  private void restLines() {
    for (int i = 0; i < lineCount; i++) {
      Line line = lineAt(i);
      if (line != null && line.restsUnheard()) {
        line.queue.add(EMPTY, 1);
        line.emptiesLaid++;
      }
    }
  }

  private void become(Piece piece, int state) {
    countInState(piece.state, -1);
    countInState(state, 1);
    piece.state = state;
  }

  private void countInState(int state, int more) {
    if (state >= 0 && state < inState.length) {
      inState[state] += more;
    }
  }

  // ---- what befalls the lines

  public int lose(int line) {
    Line hit = lineAt(line);
    if (hit == null) {
      return refuse(NOBODY);
    }
    if (hit.kind != SHAKY && hit.kind != LEASED) {
      return refuse(OTHER);
    }
    int k = hit.underWay.firstWithout(MADE_LOST);
    if (k < 0) {
      return refuse(STATE);
    }
    hit.underWay.mark(k, MADE_LOST);
    int number = hit.underWay.numberOf(k);
    return number == EMPTY ? NONE : number;
  }

  public int bend(int line, int i, int mask) {
    Line hit = lineAt(line);
    if (hit == null) {
      return refuse(NOBODY);
    }
    if (mask < 1) {
      return refuse(BELOW);
    }
    if (mask > 255) {
      return refuse(ABOVE);
    }
    int k = hit.underWay.firstWithout(MADE_LOST | BENT);
    if (k < 0) {
      return refuse(STATE);
    }
    int number = hit.underWay.numberOf(k);
    Piece piece = pieceAt(number);
    if (piece == null) {
      return refuse(OTHER);
    }
    if (i < 0 || i >= piece.size) {
      return refuse(BEYOND);
    }
    hit.underWay.mark(k, BENT);
    return number;
  }

  public int fall(int line) {
    Line fallen = lineAt(line);
    if (fallen == null) {
      return refuse(NOBODY);
    }
    if (!fallen.isUp) {
      return refuse(STATE);
    }
    int before = fallen.lostPieces;
    for (int k = 0; k < fallen.queue.length; k++) {
      loseOn(fallen, fallen.queue.numberOf(k));
    }
    // All that are UNDER WAY have counts from SEEN on.
    loseUpTo(fallen, fallen.count);
    fallen.goDown();
    return fallen.lostPieces - before;
  }

  public int rise(int line) {
    Line risen = lineAt(line);
    if (risen == null) {
      return refuse(NOBODY);
    }
    if (risen.isUp) {
      return refuse(STATE);
    }
    risen.isUp = true;
    return 1;
  }

  // ---- questions

  public int line(int line, int what) {
    Line asked = lineAt(line);
    if (asked == null) {
      return NONE;
    }
    switch (what) {
      case 0: return asked.kind;
      case 1: return asked.speed;
      case 2: return asked.delay;
      case 3: return asked.isUp ? 1 : 0;
      case 4: return asked.queue.length;
      case 5: return asked.queue.waitingBytes;
      case 6: return asked.underWay.length;
      case 7: return asked.count;
      case 8: return asked.seen;
      case 9: return asked.carried;
      case 10: return asked.lostPieces;
      case 11: return asked.emptiesLaid;
      case 12: return asked.refusedPieces;
      case 13: return asked.allowance;
      case 14: return asked.span;
      default: return NONE;
    }
  }

  public int piece(int piece, int what) {
    Piece asked = pieceAt(piece);
    if (asked == null) {
      return NONE;
    }
    switch (what) {
      case 0: return asked.state;
      case 1: return asked.frame;
      case 2: return asked.size;
      case 3: return asked.tries;
      case 4: return asked.line;
      case 5: return asked.isLast ? 1 : 0;
      case 6: return asked.sum;
      default: return NONE;
    }
  }

  public int lostOn(int piece, int line) {
    Piece asked = pieceAt(piece);
    if (asked == null || lineAt(line) == null) {
      return NONE;
    }
    return asked.lossesOn(line);
  }

  public int queued(int line, int k) {
    Line asked = lineAt(line);
    if (asked == null || k < 0 || k >= asked.queue.length) {
      return NONE;
    }
    return asked.queue.numberOf(k);
  }

  public int under(int line, int k, int what) {
    Line asked = lineAt(line);
    if (asked == null || k < 0 || k >= asked.underWay.length) {
      return NONE;
    }
    switch (what) {
      case 0: return asked.underWay.numberOf(k);
      case 1: return asked.underWay.countOf(k);
      case 2: return asked.underWay.comingOf(k);
      case 3: return asked.underWay.marksOf(k);
      default: return NONE;
    }
  }

  public int waits(int i) {
    if (i < 0 || i >= inState[LOST] + inState[NEW]) {
      return NONE;
    }
    if (i >= inState[LOST]) {
      return firstNew + i - inState[LOST];
    }
    return lostPieceAt(i);
  }

  /** The i-th of the LOST pieces. */
  private int lostPieceAt(int i) {
    int passed = 0;
    for (int number = givenPieces; number < firstNew; number++) {
      Piece piece = pieceAt(number);
      if (piece != null && piece.state == LOST) {
        if (passed == i) {
          return number;
        }
        passed++;
      }
    }
    return NONE;
  }

  public int got(int frame, int i) {
    Frame asked = frameAt(frame);
    if (asked == null) {
      return refuse(NOBODY);
    }
    // Frames are GIVEN by their numbers, so that the latest ones have the greatest.
    if (frame >= givenFrames || frame < givenFrames - KEPT_FRAMES) {
      return refuse(BEYOND);
    }
    if (i == -1) {
      return asked.size;
    }
    if (i < 0 || i >= asked.size) {
      return refuse(BEYOND);
    }
    return asked.byteAt(i);
  }

  public int frameOf(int frame, int what) {
    Frame asked = frameAt(frame);
    if (asked == null) {
      return NONE;
    }
    switch (what) {
      case 0: return asked.size;
      case 1: return asked.firstPiece;
      case 2: return asked.row;
      case 3: return asked.there;
      case 4: return asked.givenAt;
      default: return NONE;
    }
  }

  public int credit() {
    return creditLeft();
  }

  public int skew() {
    int greatestThere = NONE;
    int leastMissing = NONE;
    for (int number = givenPieces; number < pieceCount; number++) {
      Piece piece = pieceAt(number);
      if (piece != null && piece.state == THERE) {
        greatestThere = number;
      } else if (leastMissing == NONE) {
        leastMissing = number;
      }
    }
    return greatestThere == NONE ? 0 : greatestThere - leastMissing;
  }

  public int witness(int frame, int k) {
    Frame asked = frameAt(frame);
    if (asked == null || frame >= givenFrames || k < 0 || k >= asked.row) {
      return NONE;
    }
    return witnessOf(asked.firstPiece + k);
  }

  public boolean check(int frame, int sum) {
    Frame asked = frameAt(frame);
    if (asked == null || frame >= givenFrames) {
      return false;
    }
    int v = 0;
    for (int k = 0; k < asked.row; k++) {
      v = 31 * v + witnessOf(asked.firstPiece + k);
    }
    return v == sum;
  }

  /** A piece that is THERE is never laid again: its last line is the one over which it came. */
  private int witnessOf(int number) {
    Piece piece = pieceAt(number);
    return piece == null ? NONE : 100 * piece.tries + piece.line;
  }

  public int status(int what) {
    switch (what) {
      case 0: return time;
      case 1: return lineCount;
      case 2: return frameCount;
      case 3: return givenFrames;
      case 4: return pieceCount;
      case 5: return inState[THERE];
      case 6: return inState[LOST];
      case 7: return inState[NEW];
      case 8: return trayLength;
      case 9: return givenBytes;
      case 10: return cutSize;
      case 11: return roomSize;
      case 12: return allEmptiesLaid();
      default: return refusalsOf(20 - what);
    }
  }

  private int allEmptiesLaid() {
    int all = 0;
    for (int i = 0; i < lineCount; i++) {
      Line line = lineAt(i);
      if (line != null) {
        all += line.emptiesLaid;
      }
    }
    return all;
  }

  private int refusalsOf(int answer) {
    if (answer > NOBODY || answer < ABOVE) {
      return NONE;
    }
    return refusals[-answer];
  }

  // ---- what the calls share

  private int refuse(int answer) {
    if (answer <= NOBODY && answer >= ABOVE) {
      refusals[-answer]++;
    }
    return answer;
  }

  private int creditLeft() {
    return roomSize - heldBytes;
  }

  private Line lineAt(int number) {
    return number < 0 || number >= lineCount ? null : lines[number];
  }

  private Frame frameAt(int number) {
    return number < 0 || number >= frameCount ? null : frames[number];
  }

  /** Null for an EMPTY too. */
  private Piece pieceAt(int number) {
    return number < 0 || number >= pieceCount ? null : pieces[number];
  }

  private static final class Frame {
    final byte[] bytes;
    final int size;
    final int firstPiece;
    /** How many pieces it has. */
    final int row;
    int there;
    int givenAt;

    Frame(byte[] bytes, int firstPiece, int row) {
      this.bytes = bytes;
      this.size = bytes.length;
      this.firstPiece = firstPiece;
      this.row = row;
      this.givenAt = NONE;
    }

    int byteAt(int i) {
      return i < 0 || i >= bytes.length ? 0 : bytes[i] & 255;
    }

    int sumOf(int from, int length) {
      int sum = 0;
      for (int i = 0; i < length; i++) {
        sum += byteAt(from + i) * (i + 1);
      }
      return sum;
    }
  }

  private static final class Piece {
    final int frame;
    final int size;
    final boolean isLast;
    final int sum;
    final int[] losses;
    int state;
    int tries;
    /** On which it was laid last. */
    int line;

    Piece(int frame, int size, boolean isLast, int sum) {
      this.frame = frame;
      this.size = size;
      this.isLast = isLast;
      this.sum = sum;
      this.losses = new int[MOST_LINES];
      this.state = NEW;
      this.line = NONE;
    }

    int lossesOn(int number) {
      return number < 0 || number >= losses.length ? 0 : losses[number];
    }

    void addLossOn(int number) {
      if (number >= 0 && number < losses.length) {
        losses[number]++;
      }
    }
  }

  private static final class Line {
    /**
     * At most 200 pieces are UNDER WAY, and only what lose() and bend() marked, one a call, stays
     * between SEEN and these: in 512 calls no count is asked that another one overwrote.
     */
    private static final int SENT_MASK = 1023;
    /** A SPAN looks back 19 ticks at most. */
    private static final int LOG_MASK = 31;

    final int number;
    final int kind;
    final int speed;
    final int delay;
    final Queue queue;
    final UnderWay underWay;
    /** Pieces' numbers, by the counts with which they were sent. */
    final int[] sent;
    /** Bytes that it carried, by ticks. */
    final int[] log;
    boolean isUp;
    int allowance;
    int span;
    int count;
    int seen;
    int carried;
    int lostPieces;
    int emptiesLaid;
    int refusedPieces;

    Line(int number, int kind, int speed, int delay) {
      this.number = number;
      this.kind = kind;
      this.speed = speed;
      this.delay = delay;
      this.queue = new Queue();
      this.underWay = new UnderWay();
      this.sent = new int[SENT_MASK + 1];
      this.log = new int[LOG_MASK + 1];
      this.isUp = true;
      this.allowance = kind == LEASED ? 1000 : 0;
      this.span = kind == LEASED ? 4 : 0;
    }

    boolean takesMore() {
      return isUp && queue.length < MOST_QUEUED;
    }

    boolean restsUnheard() {
      return isUp && queue.length == 0 && underWay.length == 0 && seen < count;
    }

    int ticksToSend(int size) {
      return speed < 1 ? 0 : (queue.waitingBytes + size + speed - 1) / speed;
    }

    int sentWith(int c) {
      return sent[c & SENT_MASK];
    }

    void sendAt(int now) {
      int before = carried;
      if (isUp) {
        sendBytes(bytesFor(now), now);
      }
      log[now & LOG_MASK] = carried - before;
    }

    private int bytesFor(int now) {
      if (kind != LEASED) {
        return speed;
      }
      int left = allowance;
      for (int back = 1; back < span; back++) {
        left -= log[(now - back) & LOG_MASK];
      }
      return Math.min(speed, left);
    }

    private void sendBytes(int bytes, int now) {
      int left = bytes;
      for (int k = 0; k < MOST_QUEUED && left > 0; k++) {
        if (queue.length == 0 || underWay.length >= MOST_UNDER_WAY) {
          return;
        }
        int rest = queue.restOfFirst();
        if (kind == STEADY && rest > left) {
          return;
        }
        int part = Math.min(rest, left);
        queue.takeFromFirst(part);
        carried += part;
        left -= part;
        if (part == rest) {
          sendFirst(now);
        }
      }
    }

    private void sendFirst(int now) {
      int piece = queue.numberOf(0);
      queue.dropFirst();
      underWay.add(piece, count, now + delay);
      sent[count & SENT_MASK] = piece;
      count++;
    }

    void goDown() {
      isUp = false;
      queue.clear();
      underWay.clear();
      seen = count;
    }
  }

  /** The pieces that wait on a line, the first one perhaps sent in part. */
  private static final class Queue {
    private static final int MASK = 63;

    final int[] numbers;
    final int[] sizes;
    int head;
    int length;
    int waitingBytes;
    int sentOfFirst;

    Queue() {
      numbers = new int[MASK + 1];
      sizes = new int[MASK + 1];
    }

    int numberOf(int k) {
      return numbers[(head + k) & MASK];
    }

    void add(int number, int size) {
      int end = (head + length) & MASK;
      numbers[end] = number;
      sizes[end] = size;
      length++;
      waitingBytes += size;
    }

    int restOfFirst() {
      return sizes[head & MASK] - sentOfFirst;
    }

    void takeFromFirst(int part) {
      sentOfFirst += part;
      waitingBytes -= part;
    }

    /** When all of it was taken. */
    void dropFirst() {
      head = (head + 1) & MASK;
      length--;
      sentOfFirst = 0;
    }

    void clear() {
      length = 0;
      waitingBytes = 0;
      sentOfFirst = 0;
    }
  }

  /** The pieces that a line sent and that have not come yet. */
  private static final class UnderWay {
    private static final int MASK = 255;

    final int[] numbers;
    final int[] counts;
    final int[] comings;
    final int[] marks;
    int head;
    int length;

    UnderWay() {
      numbers = new int[MASK + 1];
      counts = new int[MASK + 1];
      comings = new int[MASK + 1];
      marks = new int[MASK + 1];
    }

    int numberOf(int k) {
      return numbers[(head + k) & MASK];
    }

    int countOf(int k) {
      return counts[(head + k) & MASK];
    }

    int comingOf(int k) {
      return comings[(head + k) & MASK];
    }

    int marksOf(int k) {
      return marks[(head + k) & MASK];
    }

    void add(int number, int count, int coming) {
      int end = (head + length) & MASK;
      numbers[end] = number;
      counts[end] = count;
      comings[end] = coming;
      marks[end] = 0;
      length++;
    }

    boolean hasComeAt(int now) {
      return length > 0 && comingOf(0) <= now;
    }

    void dropFirst() {
      head = (head + 1) & MASK;
      length--;
    }

    int firstWithout(int unwanted) {
      for (int k = 0; k < length; k++) {
        if ((marksOf(k) & unwanted) == 0) {
          return k;
        }
      }
      return -1;
    }

    void mark(int k, int more) {
      int at = (head + k) & MASK;
      marks[at] = marks[at] | more;
    }

    void clear() {
      length = 0;
    }
  }
}
