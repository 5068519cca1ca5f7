import java.util.ArrayDeque;
import java.util.ArrayList;
import java.util.List;

/**
 * The document's words once more, in the plainest form: it carries real bytes, keeps all that ever
 * happened, and counts everything anew for each question. It refuses as BundleLine does.
 */
final class PlainBundle {
  static final class Piece {
    int number;
    int frame;
    int[] bytes;
    int[] came;
    boolean last;
    int state;
    int tries;
    int line = -9;
    int[] lost = new int[8];
  }

  static final class Sent {
    Piece piece;
    int[] bytes;
    int count;
    int comes;
    boolean madeLost;
    boolean bent;
  }

  static final class Line {
    int number;
    int kind;
    int speed;
    int delay;
    int allowance;
    int span;
    boolean up = true;
    ArrayList<Piece> queue = new ArrayList<>();
    int sentOfFirst;
    ArrayList<Sent> under = new ArrayList<>();
    ArrayList<Sent> ever = new ArrayList<>();
    ArrayList<Integer> carriedByTick = new ArrayList<>();
    int seen;
    int carried;
    int lost;
    int empties;
    int refused;
  }

  static final class Frame {
    int[] bytes;
    ArrayList<Piece> pieces = new ArrayList<>();
    int givenAt = -9;
  }

  private final ArrayList<Line> lines = new ArrayList<>();
  private final ArrayList<Frame> frames = new ArrayList<>();
  private final ArrayList<Piece> pieces = new ArrayList<>();
  private final ArrayDeque<Frame> kept = new ArrayDeque<>();
  private ArrayList<Integer> tray = new ArrayList<>();
  private int cut = 250;
  private int room = 8000;
  private int time;
  private final int[] refusals = new int[10];

  private int no(int answer) {
    refusals[-answer]++;
    return answer;
  }

  private static <T> T at(List<T> list, int i) {
    return i >= 0 && i < list.size() ? list.get(i) : null;
  }

  int open(int kind, int speed, int delay) {
    if (kind < 0 || kind > 3) return no(-2);
    if (kind == 0 && speed < 250) return no(-4);
    if (speed < 1) return no(-4);
    if (delay < 1) return no(-4);
    if (speed > 1000 || delay > 40) return no(-6);
    if (lines.size() == 8) return no(-6);
    Line line = new Line();
    line.number = lines.size();
    line.kind = kind;
    line.speed = speed;
    line.delay = delay;
    if (kind == 3) {
      line.allowance = 1000;
      line.span = 4;
    }
    for (int t = 0; t <= time; t++) line.carriedByTick.add(0);
    lines.add(line);
    return line.number;
  }

  int lease(int n, int allowance, int span) {
    Line line = at(lines, n);
    if (line == null) return no(-1);
    if (line.kind != 3) return no(-2);
    if (allowance < 250) return no(-4);
    if (span < 1) return no(-4);
    if (allowance > 20000) return no(-6);
    if (span > 20) return no(-6);
    line.allowance = allowance;
    line.span = span;
    return 1;
  }

  int type(long w, int n) {
    if (n < 1) return no(-4);
    if (n > 8) return no(-6);
    if (tray.size() + n > 4000) return no(-6);
    ArrayList<Integer> low = new ArrayList<>();
    long rest = w;
    for (int i = 0; i < n; i++) {
      low.add(0, (int) (rest & 0xff));
      rest >>= 8;
    }
    tray.addAll(low);
    return tray.size();
  }

  int grow(int n) {
    int had = tray.size();
    if (had == 0) return no(-3);
    if (n < had) return no(-4);
    if (n > 4000) return no(-6);
    ArrayList<Integer> own = new ArrayList<>(tray);
    for (int i = 0; tray.size() < n; i++) tray.add(own.get(i % had));
    return had;
  }

  int frame() {
    if (tray.isEmpty()) return no(-3);
    int row = 0;
    for (int left = tray.size(); left > 0; left -= cut) row++;
    if (frames.size() == 300) return no(-6);
    if (pieces.size() + row > 3000) return no(-6);
    int notGiven = 0;
    for (Frame f : frames) if (f.givenAt < 0) notGiven++;
    if (notGiven == 100) return no(-6);
    Frame frame = new Frame();
    frame.bytes = toRow(tray);
    for (int from = 0; from < frame.bytes.length; from += cut) {
      Piece piece = new Piece();
      piece.number = pieces.size();
      piece.frame = frames.size();
      int to = Math.min(from + cut, frame.bytes.length);
      piece.bytes = java.util.Arrays.copyOfRange(frame.bytes, from, to);
      piece.last = to == frame.bytes.length;
      pieces.add(piece);
      frame.pieces.add(piece);
    }
    frames.add(frame);
    tray = new ArrayList<>();
    return frames.size() - 1;
  }

  private static int[] toRow(List<Integer> list) {
    int[] row = new int[list.size()];
    for (int i = 0; i < row.length; i++) row[i] = list.get(i);
    return row;
  }

  int cut(int n) {
    if (n < 1) return no(-4);
    if (n > 250) return no(-6);
    int was = cut;
    cut = n;
    return was;
  }

  int room(int n) {
    if (n < 4000) return no(-4);
    if (n > 20000) return no(-6);
    int was = room;
    room = n;
    return was;
  }

  int credit() {
    int credit = room;
    for (Piece p : pieces) {
      if (p.state != 0 && frames.get(p.frame).givenAt < 0) credit -= p.bytes.length;
    }
    return credit;
  }

  int tick(int n) {
    if (n < 1) return no(-4);
    if (n > 100) return no(-6);
    if (time + n > 20000) return no(-6);
    int given = 0;
    for (int i = 0; i < n; i++) given += oneTick();
    return given;
  }

  private int oneTick() {
    time++;
    for (Line line : lines) line.carriedByTick.add(0);
    laying();
    for (Line line : lines) if (line.up) sending(line);
    for (Line line : lines) coming(line);
    int given = 0;
    for (int i = 0; i < frames.size(); i++) {
      Frame f = frames.get(i);
      if (f.givenAt >= 0) continue;
      boolean all = true;
      for (Piece p : f.pieces) all &= p.state == 3;
      if (!all) break;
      f.givenAt = time;
      given++;
      kept.add(f);
      if (kept.size() > 20) kept.remove();
    }
    for (Line line : lines) {
      if (line.up && line.queue.isEmpty() && line.under.isEmpty() && line.seen < line.ever.size()) {
        line.queue.add(null);
        line.empties++;
      }
    }
    return given;
  }

  private List<Piece> waiting() {
    List<Piece> all = new ArrayList<>();
    for (Piece p : pieces) if (p.state == 2) all.add(p);
    for (Piece p : pieces) if (p.state == 0) all.add(p);
    return all;
  }

  private static int bytesOf(Piece p) {
    return p == null ? 1 : p.bytes.length;
  }

  private static int waitingBytes(Line line) {
    int sum = 0;
    for (Piece p : line.queue) sum += bytesOf(p);
    return sum - line.sentOfFirst;
  }

  private void laying() {
    int credit = credit();
    for (Piece p : waiting()) {
      ArrayList<Line> able = new ArrayList<>();
      for (Line line : lines) if (line.up && line.queue.size() < 40) able.add(line);
      if (able.isEmpty()) return;
      if (p.state == 0) {
        if (credit < p.bytes.length) return;
        credit -= p.bytes.length;
      } else {
        keepLeast(able, p, 0);
      }
      keepLeast(able, p, 1);
      keepLeast(able, p, 2);
      Line line = able.get(0);
      p.state = 1;
      p.tries++;
      p.line = line.number;
      line.queue.add(p);
    }
  }

  private static void keepLeast(ArrayList<Line> able, Piece p, int by) {
    long least = Long.MAX_VALUE;
    for (Line line : able) least = Math.min(least, measure(line, p, by));
    for (int i = able.size() - 1; i >= 0; i--) {
      if (measure(able.get(i), p, by) != least) able.remove(i);
    }
  }

  private static long measure(Line line, Piece p, int by) {
    if (by == 0) return p.lost[line.number];
    if (by == 1) return (long) Math.ceil((waitingBytes(line) + p.bytes.length) / (double) line.speed);
    return line.carried;
  }

  private void sending(Line line) {
    int left = line.speed;
    if (line.kind == 3) {
      int may = line.allowance;
      for (int t = time - line.span + 1; t < time; t++) {
        if (t >= 0) may -= line.carriedByTick.get(t);
      }
      left = Math.min(left, may);
    }
    while (left > 0 && !line.queue.isEmpty() && line.under.size() < 200) {
      Piece first = line.queue.get(0);
      if (line.kind == 0 && bytesOf(first) > left) return;
      left--;
      line.carried++;
      line.carriedByTick.set(time, line.carriedByTick.get(time) + 1);
      line.sentOfFirst++;
      if (line.kind == 0) {
        int more = bytesOf(first) - 1;
        left -= more;
        line.carried += more;
        line.sentOfFirst += more;
      }
      if (line.sentOfFirst == bytesOf(first)) {
        line.queue.remove(0);
        line.sentOfFirst = 0;
        Sent sent = new Sent();
        sent.piece = first;
        sent.bytes = first == null ? new int[1] : first.bytes.clone();
        sent.count = line.ever.size();
        sent.comes = time + line.delay;
        line.under.add(sent);
        line.ever.add(sent);
      }
    }
  }

  static int sumOf(int[] bytes) {
    int sum = 0;
    for (int i = 0; i < bytes.length; i++) sum += bytes[i] * (i + 1);
    return sum;
  }

  private void coming(Line line) {
    for (Sent sent : new ArrayList<>(line.under)) {
      if (sent.comes != time) continue;
      line.under.remove(sent);
      if (sent.madeLost) continue;
      if (sent.piece != null && sumOf(sent.bytes) != sumOf(sent.piece.bytes)) {
        line.refused++;
        continue;
      }
      for (int c = line.seen; c < sent.count; c++) nowLost(line, line.ever.get(c).piece);
      line.seen = sent.count + 1;
      if (sent.piece != null) {
        sent.piece.state = 3;
        sent.piece.came = sent.bytes;
      }
    }
  }

  private static void nowLost(Line line, Piece p) {
    if (p == null) return;
    p.state = 2;
    p.lost[line.number]++;
    line.lost++;
  }

  int lose(int n) {
    Line line = at(lines, n);
    if (line == null) return no(-1);
    if (line.kind < 2) return no(-2);
    for (Sent s : line.under) {
      if (!s.madeLost) {
        s.madeLost = true;
        return s.piece == null ? -9 : s.piece.number;
      }
    }
    return no(-5);
  }

  int bend(int n, int i, int mask) {
    Line line = at(lines, n);
    if (line == null) return no(-1);
    if (mask < 1) return no(-4);
    if (mask > 255) return no(-6);
    for (Sent s : line.under) {
      if (s.madeLost || s.bent) continue;
      if (s.piece == null) return no(-2);
      if (i < 0 || i >= s.bytes.length) return no(-3);
      s.bytes[i] ^= mask;
      s.bent = true;
      return s.piece.number;
    }
    return no(-5);
  }

  int fall(int n) {
    Line line = at(lines, n);
    if (line == null) return no(-1);
    if (!line.up) return no(-5);
    ArrayList<Piece> gone = new ArrayList<>();
    for (Piece p : line.queue) if (p != null) gone.add(p);
    for (Sent s : line.under) if (s.piece != null) gone.add(s.piece);
    for (int c = line.seen; c < line.ever.size(); c++) {
      Piece p = line.ever.get(c).piece;
      if (p != null && p.state == 1 && p.line == n && !gone.contains(p)) gone.add(p);
    }
    for (Piece p : gone) nowLost(line, p);
    line.queue.clear();
    line.under.clear();
    line.sentOfFirst = 0;
    line.seen = line.ever.size();
    line.up = false;
    return gone.size();
  }

  int rise(int n) {
    Line line = at(lines, n);
    if (line == null) return no(-1);
    if (line.up) return no(-5);
    line.up = true;
    return 1;
  }

  int line(int n, int what) {
    Line l = at(lines, n);
    if (l == null || what < 0 || what > 14) return -9;
    int[] all = {
      l.kind, l.speed, l.delay, l.up ? 1 : 0, l.queue.size(), waitingBytes(l), l.under.size(),
      l.ever.size(), l.seen, l.carried, l.lost, l.empties, l.refused, l.allowance, l.span
    };
    return all[what];
  }

  int piece(int n, int what) {
    Piece p = at(pieces, n);
    if (p == null || what < 0 || what > 6) return -9;
    int[] all = {p.state, p.frame, p.bytes.length, p.tries, p.line, p.last ? 1 : 0, sumOf(p.bytes)};
    return all[what];
  }

  int lostOn(int n, int line) {
    Piece p = at(pieces, n);
    return p == null || at(lines, line) == null ? -9 : p.lost[line];
  }

  private static int numberOf(Piece p) {
    return p == null ? -2 : p.number;
  }

  int queued(int n, int k) {
    Line l = at(lines, n);
    if (l == null || k < 0 || k >= l.queue.size()) return -9;
    return numberOf(l.queue.get(k));
  }

  int under(int n, int k, int what) {
    Line l = at(lines, n);
    Sent s = l == null ? null : at(l.under, k);
    if (s == null || what < 0 || what > 3) return -9;
    int marks = (s.madeLost ? 1 : 0) + (s.bent ? 2 : 0);
    int[] all = {numberOf(s.piece), s.count, s.comes, marks};
    return all[what];
  }

  int waits(int i) {
    Piece p = at(waiting(), i);
    return p == null ? -9 : p.number;
  }

  int got(int n, int i) {
    Frame f = at(frames, n);
    if (f == null) return no(-1);
    if (f.givenAt < 0 || !kept.contains(f)) return no(-3);
    if (i == -1) return f.bytes.length;
    ArrayList<Integer> came = new ArrayList<>();
    for (Piece p : f.pieces) for (int b : p.came) came.add(b);
    Integer got = at(came, i);
    return got == null ? no(-3) : got;
  }

  int frameOf(int n, int what) {
    Frame f = at(frames, n);
    if (f == null || what < 0 || what > 4) return -9;
    int there = 0;
    for (Piece p : f.pieces) if (p.state == 3) there++;
    int[] all = {f.bytes.length, f.pieces.get(0).number, f.pieces.size(), there, f.givenAt};
    return all[what];
  }

  int skew() {
    int greatest = -1;
    int least = Integer.MAX_VALUE;
    for (Piece p : pieces) {
      if (p.state == 3 && frames.get(p.frame).givenAt < 0) greatest = p.number;
      if (p.state != 3) least = Math.min(least, p.number);
    }
    return greatest < 0 ? 0 : greatest - least;
  }

  int witness(int n, int k) {
    Frame f = at(frames, n);
    Piece p = f == null || f.givenAt < 0 ? null : at(f.pieces, k);
    return p == null ? -9 : 100 * p.tries + p.line;
  }

  boolean check(int n, int sum) {
    Frame f = at(frames, n);
    if (f == null || f.givenAt < 0) return false;
    return sumOfRow(n) == sum;
  }

  /** The sum that check() asks for. */
  int sumOfRow(int n) {
    int v = 0;
    for (int k = 0; witness(n, k) != -9; k++) v = v * 31 + witness(n, k);
    return v;
  }

  int status(int what) {
    switch (what) {
      case 0: return time;
      case 1: return lines.size();
      case 2: return frames.size();
      case 3: return given(false);
      case 4: return pieces.size();
      case 5: return inState(3);
      case 6: return inState(2);
      case 7: return inState(0);
      case 8: return tray.size();
      case 9: return given(true);
      case 10: return cut;
      case 11: return room;
      case 12: return empties();
      default: return what >= 21 && what <= 26 ? refusals[what - 20] : -9;
    }
  }

  private int inState(int state) {
    int many = 0;
    for (Piece p : pieces) if (p.state == state) many++;
    return many;
  }

  private int given(boolean bytes) {
    int sum = 0;
    for (Frame f : frames) if (f.givenAt >= 0) sum += bytes ? f.bytes.length : 1;
    return sum;
  }

  private int empties() {
    int sum = 0;
    for (Line l : lines) sum += l.empties;
    return sum;
  }
}
