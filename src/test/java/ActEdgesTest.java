import java.util.List;
import java.util.function.Consumer;

/** Bars, ticks and acts (promises 9 to 16), edge by edge: each sentence of the document that names a boundary. */
public final class ActEdgesTest extends Checks {
  private static final String EIGHT = "p1;h2;s3;d4;b1;p2;h3;s4;";
  private static final String EIGHT_TALL = "p4;p4;p4;p4;p4;p4;p4;p4;";

  private static void course(String sort, int rise, int top, int... heights) {
    String text = sort + rise + ";";
    TypeBars x = with(text);
    due(text + " top", x.bar(0, 5), top);
    due(text + " at rest", x.bar(0, 2), 0);
    due(text + " has no time", x.bar(0, 3), NONE);
    due(text + " pressed", x.key(0), 1);
    due(text + " time 0", x.bar(0, 3), 0);
    due(text + " height 0", x.bar(0, 2), 0);
    due(text + " it moves, so it is not pressed", x.key(0), STATE);
    for (int t = 1; t <= heights.length; t++) {
      int h = heights[t - 1];
      due(text + " hangs at " + t, x.ticks(1), 0);
      due(text + " height at " + t, x.bar(0, 2), h);
      due(text + " time at " + t, x.bar(0, 3), h > 0 ? t : NONE);
      due(text + " moves at " + t, x.count(4), h > 0 ? 1 : 0);
      due(text + " printed by " + t, x.count(3), sort.equals("d") || t < top ? 0 : 1);
      if (h > 0) due(text + " pressed at " + t, x.key(0), STATE);
    }
    due(text + " at rest it is pressed again", x.key(0), 1);
  }

  private static void courses() {
    sentence("TOP of a BAR is RISE, of a heavy one 1 more; HEIGHT: TIME, as long as it is TOP or less; then TOP less "
        + "as much as TIME is beyond TOP (a sprung one twice that); those whose HEIGHT would be 0 or less are at REST");
    for (String sort : new String[] {"p", "d", "b"}) {
      course(sort, 1, 1, 1, 0);
      course(sort, 2, 2, 1, 2, 1, 0);
      course(sort, 3, 3, 1, 2, 3, 2, 1, 0);
      course(sort, 4, 4, 1, 2, 3, 4, 3, 2, 1, 0);
    }
    course("h", 1, 2, 1, 2, 1, 0);
    course("h", 2, 3, 1, 2, 3, 2, 1, 0);
    course("h", 3, 4, 1, 2, 3, 4, 3, 2, 1, 0);
    course("h", 4, 5, 1, 2, 3, 4, 5, 4, 3, 2, 1, 0);
    course("s", 1, 1, 1, 0);
    course("s", 2, 2, 1, 2, 0);
    course("s", 3, 3, 1, 2, 3, 1, 0);
    course("s", 4, 4, 1, 2, 3, 4, 2, 0);
  }

  /** The first bar is pressed, some ticks later the other: which hang at last. */
  private static int pressedApart(String text, int first, int ticks, int other) {
    TypeBars x = with(text);
    x.key(first);
    if (ticks > 0) x.ticks(ticks);
    x.key(other);
    return x.ticks(12);
  }

  private static void tops() {
    sentence("those MEET that are at their TOP, both");
    String ends = "p2;p4;p4;p4;p4;p4;p4;p1;";
    due("the other one ahead of it", pressedApart(ends, 0, 0, 7), 0);
    due("both", pressedApart(ends, 0, 1, 7), 129);
    due("the other one behind it", pressedApart(ends, 0, 2, 7), 0);
    due("of one sort, at once", pressedApart("p1;p4;p1;", 0, 0, 2), 5);
    due("a heavy one 1 more", pressedApart("h1;p4;p2;", 0, 0, 2), 5);
    due("a heavy one not by its rise", pressedApart("h2;p4;p2;", 0, 0, 2), 0);
    TypeBars x = with("p2;p4;p2;p4;p1;p4;");
    press(x, 0, 2);
    due("one tick", x.ticks(1), 0);
    due("two", x.ticks(1), 5);
    due("nothing is printed by those", x.count(3) + x.count(6), 0);
    press(x, 4);
    due("one at its top meets those that hang at theirs", x.ticks(1), 21);
    due("each at its own height", x.bar(0, 2) * 100 + x.bar(2, 2) * 10 + x.bar(4, 2), 221);
    due("nor by this one", x.count(3), 0);
    x = with("p1;p4;p2;p4;p2;");
    press(x, 2, 4);
    due("the last ones", x.ticks(2), 20);
    press(x, 0);
    due("the first one meets those", x.ticks(1), 21);
    x = with("p4;p4;p3;p1;");
    press(x, 0, 1);
    due("below their tops", x.ticks(1), 3);
    press(x, 3);
    due("one at its top meets none that hang below theirs", x.ticks(1), 3);
    due("it prints", x.paper(0), 3);
  }

  private static void beside() {
    sentence("or stand beside each other (PLACES 1 apart) with HEIGHTS alike");
    due("at once", pressedApart("p4;p4;", 0, 0, 1), 3);
    due("heights 1 apart", pressedApart("p4;p4;", 0, 1, 1), 0);
    due("alike again", pressedApart("p4;p4;", 0, 2, 1), 3);
    due("heights 1 apart again", pressedApart("p4;p4;", 0, 3, 1), 0);
    due("alike behind that", pressedApart("p4;p4;", 0, 4, 1), 3);
    due("alike at 1", pressedApart("p4;p4;", 0, 6, 1), 3);
    due("the first at rest", pressedApart("p4;p4;", 0, 7, 1), 0);
    for (int b = 1; b < 8; b++) {
      due("places 0 and " + b, pressedApart(EIGHT_TALL, 0, 2, b), b == 1 ? 3 : 0);
      due("places 7 and " + (7 - b), pressedApart(EIGHT_TALL, 7, 2, 7 - b), b == 1 ? 192 : 0);
    }
    TypeBars x = with("p4;p4;p4;");
    x.swap(1, 2);
    press(x, 0);
    x.ticks(2);
    press(x, 1);
    due("by place, not by number", x.ticks(12), 0);
    press(x, 0);
    x.ticks(2);
    press(x, 2);
    due("by place, the other", x.ticks(12), 5);
    x = with("p4;p4;p2;p2;");
    press(x, 2, 3);
    x.ticks(1);
    press(x, 1);
    due("one that moves and one that hangs", x.ticks(1), 14);
    due("at 1 all of them", x.bar(1, 2) * 100 + x.bar(2, 2) * 10 + x.bar(3, 2), 111);
    press(x, 0);
    due("and the next", x.ticks(1), 15);
  }

  private static void together() {
    sentence("any two BARS with HEIGHT above 0: all that MEET HANG");
    TypeBars x = with(EIGHT_TALL);
    due("at rest, all alike", x.ticks(24), 0);
    for (int b = 0; b < 8; b++) x.key(b);
    due("pressed, before a tick", x.count(5), 0);
    due("eight", x.ticks(1), 255);
    due("none moves", x.count(4), 0);
    due("they stay", x.ticks(24), 255);
    x = with(EIGHT_TALL);
    press(x, 0, 1, 3, 4, 7);
    due("two and two", x.ticks(1), 27);
    due("one moves", x.count(4), 128);
    due("it falls back", x.ticks(8), 27);
    due("it is at rest", x.count(4), 0);
    sentence("those whose HEIGHT would be 0 or less then are at REST, and MEET none");
    x = with("s3;p4;");
    press(x, 0);
    x.ticks(4);
    due("at 1, falling by 2", x.bar(0, 2), 1);
    press(x, 1);
    due("not below 0", x.ticks(1), 0);
    due("at rest", x.bar(0, 2), 0);
    sentence("HEIGHT of one that HANGS what it was when it began to");
    due("at 3", hangsAt(3), 33);
    due("at 2", hangsAt(2), 22);
    due("at 1", hangsAt(1), 11);
  }

  /** Two bars beside each other, the first falling, the other rising, meet at a height. */
  private static int hangsAt(int height) {
    TypeBars x = with("p4;p4;");
    press(x, 0);
    x.ticks(8 - 2 * height);
    press(x, 1);
    x.ticks(height);
    due("they hang", x.count(5), 3);
    x.ticks(9);
    return x.bar(0, 2) * 10 + x.bar(1, 2);
  }

  private static TypeBars atColumn(int column) {
    TypeBars x = with("p1;d1;b1;p1;");
    for (int i = 0; i < column; i++) {
      x.key(0);
      x.ticks(2);
    }
    due("column", x.count(3), column);
    return x;
  }

  private static void struck(String what, int column, int bar, int printed, int then, int columns) {
    TypeBars x = atColumn(column);
    x.key(bar);
    x.ticks(1);
    due(what + ": column", x.count(3), then);
    due(what + ": paper", x.paper(Math.min(column, 19)), printed);
    due(what + ": columns with anything", x.count(6), columns);
  }

  private static void theEnd() {
    sentence("its number comes into the COLUMN, the CARRIAGE is 1 further; a dead one: it stays; a blank PRINTS nothing");
    struck("plain, first", 0, 3, 3, 1, 1);
    struck("dead, first", 0, 1, 1, 0, 1);
    struck("blank, first", 0, 2, NONE, 1, 0);
    struck("plain, last", 19, 3, 3, 20, 20);
    struck("dead, last", 19, 1, 1, 19, 20);
    struck("blank, last", 19, 2, NONE, 20, 19);
    sentence("In COLUMN 20 (THE END) nothing is PRINTED, and the CARRIAGE stays");
    struck("plain", 20, 3, 0, 20, 20);
    struck("dead", 20, 1, 0, 20, 20);
    struck("blank", 20, 2, 0, 20, 20);
    TypeBars x = atColumn(20);
    due("column 20 is none of the paper", x.paper(20), BAD);
    due("12: the COLUMN where it was", x.back(), 20);
    due("the carriage is at 0", x.count(3), 0);
    for (int c = 0; c < 20; c++) due("paper " + c, x.paper(c), NONE);
    due("nothing is there", x.count(6), 0);
    press(x, 3);
    x.ticks(1);
    due("it prints anew", x.paper(0) * 10 + x.count(3), 31);
    sentence("in place of what is there");
    x = atColumn(0);
    press(x, 1);
    x.ticks(2);
    press(x, 2);
    x.ticks(2);
    due("a blank leaves it", x.paper(0), 1);
    x = atColumn(0);
    press(x, 1);
    x.ticks(2);
    press(x, 3);
    x.ticks(2);
    due("a plain one", x.paper(0), 3);
    due("of one column", x.count(6), 1);
  }

  private static TypeBars atTick(int tick) {
    TypeBars x = with("p1;");
    for (int i = 0; i < tick / 24; i++) x.ticks(24);
    if (tick % 24 > 0) x.ticks(tick % 24);
    due("tick", x.count(2), tick);
    return x;
  }

  private static void ticking() {
    sentence("9: n TICKS (1 to 24). BAD");
    edge("n", n -> with(EIGHT).ticks(n), 1, 0, 0);
    edge("n", n -> with(EIGHT).ticks(n), 24, 0, 25);
    sentence("9: an ACT each; TICK is 1 more");
    for (int n = 1; n <= 24; n++) {
      TypeBars x = with("p1;");
      x.ticks(n);
      due("tick of " + n, x.count(2), n);
      due("acts of " + n, x.count(7), n);
    }
    sentence("9: STATE: no BASKET (ahead of BAD)");
    for (int n : new int[] {1, 24, 0, 25, -1, MIN, MAX}) due("" + n, new TypeBars().ticks(n), STATE);
    sentence("9: FULL: beyond TICK 9999");
    TypeBars x = atTick(9975);
    due("24 to 9999", x.ticks(24), 0);
    due("1 beyond", x.ticks(1), FULL);
    due("24 beyond", x.ticks(24), FULL);
    due("BAD ahead of FULL", x.ticks(25), BAD);
    due("BAD ahead of FULL, below", x.ticks(0), BAD);
    due("tick", x.count(2), 9999);
    due("acts", x.count(7), 24);
    due("a key", x.key(0), 1);
    due("undone", x.undo(), 23);
    due("a tick undone", x.undo(), 22);
    due("tick 9998", x.count(2), 9998);
    due("2 beyond", x.ticks(2), FULL);
    due("1 to 9999", x.ticks(1), 0);
    due("1 beyond again", x.ticks(1), FULL);
    x = atTick(9976);
    due("24 to 10000", x.ticks(24), FULL);
    due("none of them passed", x.count(2), 9976);
    due("23 to 9999", x.ticks(23), 0);
    due("tick at last", x.count(2), 9999);
    x = atTick(9998);
    due("2 to 10000", x.ticks(2), FULL);
    x.key(0);
    due("foretold all the same", x.height(0, 1), 1);
    due("foretold beyond", x.later(60, 2), 1);
    due("nothing changes", x.count(2), 9998);
  }

  private static void keys() {
    sentence("10: A KEY is pressed: BARS (bits) that MOVE then. BAD");
    edge("bar", b -> with(EIGHT).key(b), 0, 1, -1);
    edge("bar", b -> with(EIGHT).key(b), 7, 128, 8);
    edge("bar of one", b -> with("p1;").key(b), 0, 1, 1);
    due("no basket", new TypeBars().key(0), BAD);
    TypeBars x = with(EIGHT_TALL);
    for (int b = 0; b < 8; b++) due("one more, " + b, x.key(b), (2 << b) - 1);
    sentence("10: STATE: its BAR is not at REST");
    for (int b = 0; b < 8; b++) due("it moves, " + b, x.key(b), STATE);
    due("acts", x.count(7), 8);
    x.ticks(1);
    for (int b = 0; b < 8; b++) due("it hangs, " + b, x.key(b), STATE);
    due("BAD ahead of it", x.key(8), BAD);
    due("acts then", x.count(7), 9);
    due("11: all that HANG are freed: how many", x.free(), 8);
    due("11: none HANGS then", x.free(), STATE);
    for (int b = 0; b < 8; b++) due("at rest again, " + b, x.key(b), (2 << b) - 1);
  }

  private static void freeing() {
    sentence("11: STATE: none HANGS");
    due("no basket", new TypeBars().free(), STATE);
    TypeBars x = with("p2;p2;p3;p1;");
    due("all at rest", x.free(), STATE);
    press(x, 0, 1);
    due("they move", x.free(), STATE);
    due("no act", x.count(7), 2);
    x.ticks(1);
    press(x, 3);
    due("two, the least", x.free(), 2);
    due("they are at rest", x.count(5), 0);
    due("height", x.bar(0, 2) + x.bar(1, 2), 0);
    due("time", x.bar(0, 3), NONE);
    due("the other one moves on", x.count(4), 8);
    sentence("12: STATE: no BASKET");
    due("none", new TypeBars().back(), STATE);
    due("the COLUMN where it was, 0", with("p1;").back(), 0);
    due("19", atColumn(19).back(), 19);
    due("20", atColumn(20).back(), 20);
  }

  private static void swapping() {
    sentence("13: Two BARS exchange their PLACES: PLACE of the first then. BAD: alike, too");
    edge("first", b -> with(EIGHT).swap(b, 3), 0, 3, -1);
    edge("first", b -> with(EIGHT).swap(b, 3), 7, 3, 8);
    edge("other", b -> with(EIGHT).swap(3, b), 0, 0, -1);
    edge("other", b -> with(EIGHT).swap(3, b), 7, 7, 8);
    TypeBars x = with(EIGHT);
    for (int b = 0; b < 8; b++) due("alike " + b, x.swap(b, b), BAD);
    due("alike, no bars", x.swap(8, 8), BAD);
    due("no act", x.count(7), 0);
    due("no basket", new TypeBars().swap(0, 1), BAD);
    due("one bar", with("p1;").swap(0, 1), BAD);
    due("the ends", x.swap(0, 7), 7);
    due("the other end", x.bar(7, 1), 0);
    due("back again", x.swap(0, 7), 0);
    due("two acts", x.count(7), 2);
  }

  private static TypeBars busy() {
    TypeBars x = with("p1;p4;p4;h4;s3;p1;");
    press(x, 0);
    x.ticks(1);
    press(x, 1, 2);
    x.ticks(1);
    press(x, 4);
    x.ticks(3);
    press(x, 0);
    due("busy", x.count(4) * 100 + x.count(5), 1706);
    return x;
  }

  private static void undone(String what, Consumer<TypeBars> act) {
    TypeBars x = busy();
    List<String> before = look(x);
    act.accept(x);
    due(what + " is an act", x.count(7), 11);
    due(what + " can be undone", x.undo(), 10);
    alike(what + " undone", look(x), before);
  }

  private static void undoing() {
    sentence("14: The latest ACT is undone, each can be");
    undone("a tick", x -> x.ticks(1));
    undone("a key", x -> x.key(3));
    undone("freed", x -> x.free());
    undone("back", x -> x.back());
    undone("exchanged", x -> x.swap(0, 5));
    sentence("14: STATE: none");
    due("no basket", new TypeBars().undo(), STATE);
    TypeBars x = with("p1;p1;p4;");
    due("none yet", x.undo(), STATE);
    x.back();
    due("one", x.undo(), 0);
    due("none more", x.undo(), STATE);
    due("none more, how many", x.count(7), 0);
    x.key(3);
    x.key(2);
    x.key(2);
    x.free();
    x.swap(1, 1);
    x.ticks(0);
    due("what is refused is no act", x.count(7), 1);
  }

  private static void twentyFour() {
    sentence("ACTS (24 at most are kept, of more the oldest is forgotten)");
    TypeBars x = with("p1;p1;p4;");
    x.swap(0, 1);
    x.ticks(23);
    due("24", x.count(7), 24);
    for (int left = 23; left >= 0; left--) due("left", x.undo(), left);
    due("the oldest, too", x.bar(0, 1), 0);
    due("then none", x.undo(), STATE);
    x.swap(0, 1);
    x.ticks(24);
    due("25, of which 24", x.count(7), 24);
    for (int left = 23; left >= 0; left--) due("left again", x.undo(), left);
    due("tick 0", x.count(2), 0);
    due("not the oldest", x.bar(0, 1), 1);
    due("then none, either", x.undo(), STATE);
    x.ticks(24);
    x.ticks(24);
    x.ticks(24);
    due("72, of which 24", x.count(7), 24);
    for (int left = 23; left >= 0; left--) {
      due("left of 72", x.undo(), left);
      due("tick of 72", x.count(2), 48 + left);
    }
    due("none of the 48", x.undo(), STATE);
    x.ticks(24);
    for (int i = 0; i < 10; i++) x.undo();
    due("tick 62", x.count(2), 62);
    for (int i = 0; i < 5; i++) {
      x.swap(0, 2);
      x.back();
    }
    due("14 and 10", x.count(7), 24);
    x.swap(1, 2);
    due("and one more", x.count(7), 24);
    for (int i = 0; i < 11; i++) x.undo();
    due("tick 62 again", x.count(2) * 100 + x.count(7), 6213);
    for (int left = 12; left >= 0; left--) due("left of 13", x.undo(), left);
    due("tick 49, as the oldest is forgotten", x.count(2), 49);
    due("none of 13 is left", x.undo(), STATE);
    oldestOfEach();
  }

  private static void oldestOfEach() {
    for (int act = 0; act < 4; act++) {
      TypeBars x = with("p1;p1;p4;");
      press(x, 0, 1);
      x.ticks(1);
      if (act == 0) x.key(2);
      else if (act == 1) x.free();
      else if (act == 2) x.back();
      else x.swap(0, 1);
      for (int i = 0; i < 12; i++) {
        x.back();
        x.swap(1, 2);
      }
      due("24 behind act " + act, x.count(7), 24);
      for (int left = 23; left >= 0; left--) due("left behind act " + act, x.undo(), left);
      due("act " + act + " cannot be undone", x.undo(), STATE);
      due("act " + act + " stands", x.count(4) * 100 + x.count(5) * 10 + x.bar(0, 1), new int[] {430, 0, 30, 31}[act]);
    }
  }

  private static void told() {
    sentence("15: BAD");
    edge("bar", b -> with(EIGHT).bar(b, 0), 0, 1, -1);
    edge("bar", b -> with(EIGHT).bar(b, 0), 7, 4, 8);
    edge("bar of one", b -> with("h4;").bar(b, 5), 0, 5, 1);
    edge("what", what -> with(EIGHT).bar(7, what), 0, 4, -1);
    edge("what", what -> with(EIGHT).bar(7, what), 5, 4, 6);
    for (int what = 0; what <= 5; what++) due("no basket", new TypeBars().bar(0, what), BAD);
    sentence("15: 3 TIME (NONE: it does not MOVE), 4 whether it HANGS (1, 0)");
    TypeBars x = with("h4;h4;");
    due("at rest", x.bar(0, 3), NONE);
    due("at rest: hangs", x.bar(0, 4), 0);
    press(x, 0);
    due("time 0", x.bar(0, 3), 0);
    x.ticks(9);
    due("time 9", x.bar(0, 3), 9);
    due("it moves: hangs", x.bar(0, 4), 0);
    x.ticks(1);
    due("no time 10", x.bar(0, 3), NONE);
    press(x, 0, 1);
    x.ticks(1);
    due("it hangs: time", x.bar(0, 3), NONE);
    due("it hangs", x.bar(0, 4) * 10 + x.bar(1, 4), 11);
    sentence("16: The number in a COLUMN (0 to 19) of the PAPER; NONE. BAD");
    edge("column", c -> atColumn(20).paper(c), 0, 0, -1);
    edge("column", c -> atColumn(20).paper(c), 19, 0, 20);
    edge("column, nothing there", c -> with("p1;").paper(c), 0, NONE, -1);
    edge("column, nothing there", c -> with("p1;").paper(c), 19, NONE, 20);
    edge("column, no basket", c -> new TypeBars().paper(c), 0, NONE, -1);
    edge("column, no basket", c -> new TypeBars().paper(c), 19, NONE, 20);
    x = with(EIGHT);
    press(x, 7);
    x.ticks(4);
    due("the last number", x.paper(0), 7);
    due("behind it", x.paper(1), NONE);
  }

  public static void main(String[] args) {
    courses();
    tops();
    beside();
    together();
    theEnd();
    ticking();
    keys();
    freeing();
    swapping();
    undoing();
    twentyFour();
    told();
    end();
  }
}
