import java.math.BigInteger;
import java.util.ArrayDeque;
import java.util.ArrayList;
import java.util.Arrays;
import java.util.Deque;
import java.util.List;
import java.util.regex.Matcher;
import java.util.regex.Pattern;

/**
 * The document, written a second time and in another way than the program: bars are objects of classes that
 * extend one another, every two bars are compared, nothing is cut short. It is the measure of OracleTest.
 */
final class Oracle {
  static final int NONE = -1000000, BAD = -1000001, STATE = -1000002, FULL = -1000003;

  enum Mode { REST, MOVES, HANGS }

  /** A bar of no kind: what is lent to all. */
  static class Bar implements Cloneable {
    int number, rise, place, time, hung;
    Mode mode = Mode.REST;
    List<Integer> trace;

    int code() { return 0; }
    int top() { return rise; }
    int fall(int beyond) { return beyond; }
    boolean prints() { return true; }
    boolean steps() { return true; }

    int height() {
      if (mode == Mode.HANGS) return hung;
      if (mode == Mode.REST) return 0;
      return time <= top() ? time : top() - fall(time - top());
    }

    void begins(int body) { trace.add(body); }
    int size() { begins(10); return rise; }
    int mark() { begins(20); return number; }

    Bar twin() {
      try {
        return (Bar) clone();
      } catch (CloneNotSupportedException e) {
        throw new IllegalStateException(e);
      }
    }
  }

  static class Plain extends Bar {
    @Override int code() { return 1; }
    @Override int size() { begins(11); int lent = super.size(); return lent + mark(); }
    @Override int mark() { begins(21); int lent = super.mark(); return lent + height(); }
  }

  static class Heavy extends Plain {
    @Override int code() { return 2; }
    @Override int top() { return rise + 1; }
    @Override int size() { begins(12); return -super.size(); }
    @Override int mark() { begins(24); return 2 * super.mark(); }
  }

  static class Sprung extends Plain {
    @Override int code() { return 3; }
    @Override int fall(int beyond) { return 2 * beyond; }
    @Override int mark() { begins(22); return super.mark() - 1000; }
  }

  static class Dead extends Bar {
    @Override int code() { return 4; }
    @Override boolean steps() { return false; }
    @Override int size() { begins(13); return super.size() - 100; }
    @Override int mark() { begins(23); int lent = super.mark(); return lent - size(); }
  }

  static class Blank extends Dead {
    @Override int code() { return 5; }
    @Override boolean steps() { return true; }
    @Override boolean prints() { return false; }
    @Override int size() { begins(14); return 2 * super.size(); }
  }

  static Bar make(int code) {
    switch (code) {
      case 1: return new Plain();
      case 2: return new Heavy();
      case 3: return new Sprung();
      case 4: return new Dead();
      default: return new Blank();
    }
  }

  static Bar like(Bar old, int code) {
    Bar bar = make(code);
    bar.number = old.number;
    bar.rise = old.rise;
    bar.place = old.place;
    bar.time = old.time;
    bar.mode = old.mode;
    // A bar that hangs keeps the height that it had when it began to.
    bar.hung = old.hung;
    return bar;
  }

  static final class Basket {
    final List<Bar> bars = new ArrayList<>();
    final Integer[] paper = new Integer[20];
    int column, tick, printed;

    Basket twin() {
      Basket b = new Basket();
      for (Bar bar : bars) b.bars.add(bar.twin());
      System.arraycopy(paper, 0, b.paper, 0, 20);
      b.column = column;
      b.tick = tick;
      b.printed = printed;
      return b;
    }

    int bits(Mode mode) {
      int bits = 0;
      for (Bar bar : bars) if (bar.mode == mode) bits += 1 << bar.number;
      return bits;
    }

    void tick() {
      for (Bar bar : bars) {
        if (bar.mode == Mode.MOVES) {
          bar.time++;
          if (bar.height() <= 0) bar.mode = Mode.REST;
        }
      }
      boolean[] meets = new boolean[bars.size()];
      for (Bar a : bars) {
        for (Bar b : bars) {
          if (a == b || a.height() <= 0 || b.height() <= 0) continue;
          if (a.mode != Mode.MOVES && b.mode != Mode.MOVES) continue;
          boolean tops = a.height() == a.top() && b.height() == b.top();
          boolean beside = Math.abs(a.place - b.place) == 1 && a.height() == b.height();
          if (tops || beside) {
            meets[a.number] = true;
            meets[b.number] = true;
          }
        }
      }
      for (Bar bar : bars) {
        if (meets[bar.number]) {
          bar.hung = bar.height();
          bar.mode = Mode.HANGS;
        }
      }
      for (Bar bar : bars) {
        if (bar.mode == Mode.MOVES && bar.height() == bar.top()) {
          printed++;
          if (column < 20) {
            if (bar.prints()) paper[column] = bar.number;
            if (bar.steps()) column++;
          }
        }
      }
      tick++;
    }

    void press(Bar bar) {
      bar.mode = Mode.MOVES;
      bar.time = 0;
    }

    int free() {
      int freed = 0;
      for (Bar bar : bars) {
        if (bar.mode == Mode.HANGS) {
          bar.mode = Mode.REST;
          freed++;
        }
      }
      return freed;
    }

    void exchange(int a, int b) {
      int p = bars.get(a).place;
      bars.get(a).place = bars.get(b).place;
      bars.get(b).place = p;
    }
  }

  private final int[][] rows = new int[8][];
  private final int[] lanes = new int[8];
  private final StringBuilder tape = new StringBuilder();
  private Basket now;
  private final Deque<Basket> acts = new ArrayDeque<>();
  private final Basket[] images = new Basket[2];
  private List<Integer> trace = new ArrayList<>();
  private int fault, status;

  private int found(int n) { status = n; return -1000010 - n; }
  private int fine(int answer) { status = 0; return answer; }
  private static boolean in(int v, int lo, int hi) { return v >= lo && v <= hi; }
  private boolean isBar(int b) { return now != null && in(b, 0, now.bars.size() - 1); }
  private boolean span(int row, long i, long n) { return i >= 0 && n >= 0 && i + n <= rows[row].length; }
  private void act() {
    acts.addLast(now.twin());
    if (acts.size() > 24) acts.removeFirst();
  }

  int row(int row, int lane, int n) {
    if (!in(row, 0, 7) || !in(lane, 0, 2) || n > 40) return BAD;
    if (n < 0) return found(4);
    rows[row] = new int[n];
    lanes[row] = lane;
    return fine(n);
  }

  int set(int row, int i, int v) {
    if (!in(row, 0, 7)) return BAD;
    if (rows[row] == null) return found(1);
    if (!in(i, 0, rows[row].length - 1)) return found(2);
    rows[row][i] = lanes[row] == 0 ? (byte) v : lanes[row] == 1 ? (short) v : v;
    return fine(rows[row][i]);
  }

  int copy(int a, int i, int b, int j, int n) {
    if (!in(a, 0, 7) || !in(b, 0, 7)) return BAD;
    if (rows[a] == null || rows[b] == null) return found(1);
    if (lanes[a] != lanes[b]) return found(5);
    if (!span(a, i, n) || !span(b, j, n)) return found(2);
    int[] moved = Arrays.copyOfRange(rows[a], i, i + n);
    for (int k = 0; k < n; k++) rows[b][j + k] = moved[k];
    return fine(n);
  }

  int drop(int row) {
    if (!in(row, 0, 7)) return BAD;
    if (rows[row] == null) return found(1);
    int had = rows[row].length;
    rows[row] = null;
    return fine(had);
  }

  int feed(int letter) {
    if (!in(letter, 0, 255)) return BAD;
    if (tape.length() == 60) return FULL;
    tape.append((char) letter);
    return tape.length();
  }

  private static final Pattern TOKEN = Pattern.compile("[0-9]+|[\\s\\S]");

  int basket() {
    String text = tape.toString();
    tape.setLength(0);
    Basket made = new Basket();
    Matcher tokens = TOKEN.matcher(text);
    int stage = 0, place = 0, wrong = 0;
    Bar bar = null;
    while (wrong == 0 && tokens.find()) {
      String token = tokens.group();
      place = tokens.start();
      if (stage == 0) {
        int code = token.length() == 1 ? "phsdb".indexOf(token) + 1 : 0;
        if (code == 0) wrong = 1;
        else if (made.bars.size() == 8) wrong = 3;
        else bar = make(code);
      } else if (stage == 1) {
        if (!token.matches("[0-9]{1,2}")) wrong = 1;
        else if (!in(Integer.parseInt(token), 1, 4)) wrong = 2;
        else bar.rise = Integer.parseInt(token);
      } else if (token.equals(";")) {
        bar.number = made.bars.size();
        bar.place = bar.number;
        made.bars.add(bar);
      } else {
        wrong = 1;
      }
      stage = (stage + 1) % 3;
    }
    if (wrong == 0 && (stage != 0 || made.bars.isEmpty())) {
      wrong = 1;
      place = text.length();
    }
    if (wrong != 0) {
      fault = wrong;
      return -1000100 - place;
    }
    now = made;
    acts.clear();
    return now.bars.size();
  }

  int fault() { return fault; }

  int ticks(int n) {
    if (now == null) return STATE;
    if (!in(n, 1, 24)) return BAD;
    if (now.tick + n > 9999) return FULL;
    for (int i = 0; i < n; i++) {
      act();
      now.tick();
    }
    return now.bits(Mode.HANGS);
  }

  int key(int bar) {
    if (!isBar(bar)) return BAD;
    if (now.bars.get(bar).mode != Mode.REST) return STATE;
    act();
    now.press(now.bars.get(bar));
    return now.bits(Mode.MOVES);
  }

  int free() {
    if (now == null || now.bits(Mode.HANGS) == 0) return STATE;
    act();
    return now.free();
  }

  int back() {
    if (now == null) return STATE;
    act();
    int was = now.column;
    now.column = 0;
    Arrays.fill(now.paper, null);
    return was;
  }

  int swap(int bar, int other) {
    if (!isBar(bar) || !isBar(other) || bar == other) return BAD;
    act();
    now.exchange(bar, other);
    return now.bars.get(bar).place;
  }

  int undo() {
    if (acts.isEmpty()) return STATE;
    now = acts.removeLast();
    return acts.size();
  }

  int bar(int bar, int what) {
    if (!isBar(bar)) return BAD;
    Bar b = now.bars.get(bar);
    switch (what) {
      case 0: return b.rise;
      case 1: return b.place;
      case 2: return b.height();
      case 3: return b.mode == Mode.MOVES ? b.time : NONE;
      case 4: return b.mode == Mode.HANGS ? 1 : 0;
      case 5: return b.top();
      default: return BAD;
    }
  }

  int paper(int column) {
    if (!in(column, 0, 19)) return BAD;
    return now == null || now.paper[column] == null ? NONE : now.paper[column];
  }

  private Basket on(int d) {
    Basket ahead = now.twin();
    for (int i = 0; i < d; i++) ahead.tick();
    return ahead;
  }

  int height(int bar, int d) {
    if (!isBar(bar) || !in(d, 0, 60)) return BAD;
    return on(d).bars.get(bar).height();
  }

  int later(int d, int what) {
    if (now == null) return STATE;
    if (!in(d, 0, 60) || !in(what, 0, 2)) return BAD;
    Basket ahead = on(d);
    return what == 0 ? ahead.bits(Mode.HANGS) : what == 1 ? ahead.bits(Mode.MOVES) : ahead.column;
  }

  int jam(int what) {
    if (now == null) return STATE;
    if (!in(what, 0, 1)) return BAD;
    for (int d = 0; d <= 60; d++) {
      int hang = on(d).bits(Mode.HANGS);
      if (hang != 0) return what == 0 ? d : hang;
    }
    return NONE;
  }

  int waits(int bar) {
    if (!isBar(bar)) return BAD;
    for (int w = 0; w <= 20; w++) {
      Basket then = on(w);
      if (then.bars.get(bar).mode != Mode.REST) continue;
      int ahead = then.bits(Mode.HANGS);
      then.press(then.bars.get(bar));
      boolean clear = true;
      for (int i = 0; i < 12; i++) {
        then.tick();
        if ((then.bits(Mode.HANGS) & ~ahead) != 0) clear = false;
      }
      if (clear) return w;
    }
    return NONE;
  }

  private static boolean goes(Basket from, int[] word, int pace) {
    Basket b = from.twin();
    int hangs = b.bits(Mode.HANGS);
    int end = (word.length - 1) * pace + 12;
    for (int t = 0; t <= end; t++) {
      if ((b.bits(Mode.HANGS) & ~hangs) != 0) return false;
      if (t % pace == 0 && t / pace < word.length) {
        int k = word[t / pace];
        if (k < 0 || k >= b.bars.size() || b.bars.get(k).mode != Mode.REST) return false;
        b.press(b.bars.get(k));
      }
      if (t < end) b.tick();
    }
    return true;
  }

  private static int paceOf(Basket from, int[] word) {
    for (int pace = 1; pace <= 12; pace++) if (goes(from, word, pace)) return pace;
    return NONE;
  }

  private int[] word(int row, int i, int n) { return Arrays.copyOfRange(rows[row], i, i + n); }

  int pace(int row, int i, int n) {
    if (!in(row, 0, 7) || !in(n, 1, 12)) return BAD;
    if (now == null) return STATE;
    if (rows[row] == null) return found(1);
    if (!span(row, i, n)) return found(2);
    return fine(paceOf(now, word(row, i, n)));
  }

  int better(int row, int i, int n, int what) {
    if (!in(row, 0, 7) || !in(n, 1, 12) || !in(what, 0, 1)) return BAD;
    if (now == null) return STATE;
    if (rows[row] == null) return found(1);
    if (!span(row, i, n)) return found(2);
    int[] word = word(row, i, n);
    int as = paceOf(now, word);
    int which = NONE, least = as == NONE ? Integer.MAX_VALUE : as;
    for (int a = 0; a < now.bars.size(); a++) {
      for (int b = a + 1; b < now.bars.size(); b++) {
        Basket other = now.twin();
        other.exchange(a, b);
        int pace = paceOf(other, word);
        if (pace != NONE && pace < least) {
          least = pace;
          which = 10 * a + b;
        }
      }
    }
    return fine(which == NONE ? NONE : what == 0 ? which : least);
  }

  private static boolean tells(Basket b, int bar, int[] heights) {
    for (int h : heights) {
      b.tick();
      if (b.bars.get(bar).height() != h) return false;
    }
    return true;
  }

  int fits(int bar, int row, int i, int n, int what) {
    if (!isBar(bar) || !in(row, 0, 7) || !in(n, 1, 12) || !in(what, 0, 3)) return BAD;
    if (rows[row] == null) return found(1);
    if (!span(row, i, n)) return found(2);
    int[] heights = word(row, i, n);
    int bits = 0;
    for (int v = 0; v <= 9; v++) {
      Basket b = now.twin();
      Bar old = b.bars.get(bar);
      if (what == 0) {
        if (!in(v, 1, 5)) continue;
        b.bars.set(bar, like(old, v));
      } else if (what == 1) {
        if (!in(v, 1, 4)) continue;
        old.rise = v;
      } else if (what == 2) {
        old.mode = Mode.MOVES;
        old.time = v;
      } else {
        if (v >= b.bars.size()) continue;
        for (Bar there : now.bars) {
          if (there.place == v && there.number != bar) b.exchange(bar, there.number);
        }
      }
      if (tells(b, bar, heights)) bits += 1 << v;
    }
    return fine(bits);
  }

  int chance(int n, int c, int what) {
    if (now == null) return STATE;
    if (!in(n, 0, 60) || !in(c, 0, 10) || !in(what, 0, 1)) return BAD;
    List<Integer> movers = new ArrayList<>();
    for (Bar bar : now.bars) if (bar.mode == Mode.MOVES) movers.add(bar.number);
    BigInteger above = clear(now.twin(), movers, 0, n, c);
    BigInteger below = BigInteger.TEN.pow(movers.size());
    BigInteger common = above.gcd(below);
    return (what == 0 ? above : below).divide(common).intValueExact();
  }

  private static BigInteger clear(Basket b, List<Integer> movers, int i, int n, int c) {
    if (i == movers.size()) {
      for (int t = 0; t < n; t++) b.tick();
      return b.bits(Mode.HANGS) == 0 ? BigInteger.ONE : BigInteger.ZERO;
    }
    Basket fallen = b.twin();
    fallen.bars.get(movers.get(i)).mode = Mode.REST;
    BigInteger rest = clear(fallen, movers, i + 1, n, c).multiply(BigInteger.valueOf(c));
    return rest.add(clear(b, movers, i + 1, n, c).multiply(BigInteger.valueOf(10 - c)));
  }

  int drawn(int n, int seed, int what) {
    if (now == null) return STATE;
    if (!in(n, 0, 60) || !in(seed, 1, 999999) || !in(what, 0, 1)) return BAD;
    Basket b = now.twin();
    b.printed = 0;
    BigInteger x = BigInteger.valueOf(seed);
    for (int i = 0; i < n; i++) {
      x = x.multiply(BigInteger.valueOf(16807)).mod(BigInteger.valueOf(2147483647));
      int v = x.intValueExact();
      if (v % 11 == 0) b.free();
      Bar bar = b.bars.get(v % b.bars.size());
      if (v % 3 == 0 && bar.mode == Mode.REST) b.press(bar);
      b.tick();
    }
    return what == 0 ? b.printed : Integer.bitCount(b.bits(Mode.HANGS));
  }

  int image(int k) {
    if (!in(k, 0, 1)) return BAD;
    if (now == null) return STATE;
    images[k] = now.twin();
    return 1;
  }

  int restore(int k) {
    if (!in(k, 0, 1)) return BAD;
    if (images[k] == null) return STATE;
    now = images[k].twin();
    acts.clear();
    return 1;
  }

  int kind(int bar) { return isBar(bar) ? now.bars.get(bar).code() : BAD; }

  int as(int bar, int kind) {
    if (!isBar(bar) || !in(kind, 0, 5)) return BAD;
    Class<?>[] kinds = {Bar.class, Plain.class, Heavy.class, Sprung.class, Dead.class, Blank.class};
    return kinds[kind].isInstance(now.bars.get(bar)) ? fine(bar) : found(3);
  }

  int ask(int bar, int what) {
    if (!isBar(bar) || !in(what, 0, 1)) return BAD;
    Bar b = now.bars.get(bar);
    trace = new ArrayList<>();
    b.trace = trace;
    return what == 0 ? b.size() : b.mark();
  }

  int trace(int i) { return in(i, 0, Math.min(trace.size(), 16) - 1) ? trace.get(i) : NONE; }

  int count(int what) {
    int n = 0;
    switch (what) {
      case 0:
        for (int[] row : rows) if (row != null) n++;
        return n;
      case 1: return now == null ? 0 : now.bars.size();
      case 2: return now == null ? 0 : now.tick;
      case 3: return now == null ? 0 : now.column;
      case 4: return now == null ? 0 : now.bits(Mode.MOVES);
      case 5: return now == null ? 0 : now.bits(Mode.HANGS);
      case 6:
        if (now != null) for (Integer p : now.paper) if (p != null) n++;
        return n;
      case 7: return acts.size();
      case 8: return tape.length();
      default: return BAD;
    }
  }

  int status() { return status; }
}
