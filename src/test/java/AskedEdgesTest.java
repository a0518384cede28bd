/** Kinds, asks, counts and the status (promises 1, 28 to 33), edge by edge: each sentence that names a boundary. */
public final class AskedEdgesTest extends Checks {
  private static final String EIGHT = "p1;h2;s3;d4;b1;p2;h3;s4;";

  private static void newOne() {
    sentence("1: No BASKET");
    TypeBars x = new TypeBars();
    for (int what = 0; what <= 8; what++) due("count " + what, x.count(what), 0);
    for (int c = 0; c < 20; c++) due("paper " + c, x.paper(c), NONE);
    for (int i = 0; i < 16; i++) due("trace " + i, x.trace(i), NONE);
    due("fault", x.fault(), 0);
    due("status", x.status(), 0);
    due("two objects have nothing in common", with("p1;").count(1) + new TypeBars().count(1), 1);
  }

  private static void kinds() {
    sentence("28: The KIND of a BAR, as told (1 to 5). BAD");
    edge("bar", b -> with(EIGHT).kind(b), 0, 1, -1);
    edge("bar", b -> with(EIGHT).kind(b), 7, 3, 8);
    edge("bar of one", b -> with("b4;").kind(b), 0, 5, 1);
    due("no basket", new TypeBars().kind(0), BAD);
    sentence("29: A BAR is taken as one of a KIND (0 .. 5): its number. BAD");
    edge("bar", b -> with(EIGHT).as(b, 0), 0, 0, -1);
    edge("bar", b -> with(EIGHT).as(b, 0), 7, 7, 8);
    edge("kind", k -> with(EIGHT).as(4, k), 0, 4, -1);
    edge("kind", k -> with(EIGHT).as(4, k), 5, 4, 6);
    due("no basket", new TypeBars().as(0, 0), BAD);
    sentence("29: KIND: it is no such one");
    String[] is = {"110000", "111000", "110100", "100010", "100011"};
    for (int b = 0; b < 5; b++) {
      for (int kind = 0; kind < 6; kind++) {
        TypeBars x = with("p1;h1;s1;d1;b1;");
        boolean so = is[b].charAt(kind) == '1';
        due(b + " as " + kind, x.as(b, kind), so ? b : KIND);
        due(b + " as " + kind + ", status", x.status(), so ? 0 : 3);
        due(b + " is what it was", x.kind(b), b + 1);
      }
    }
    TypeBars x = with(EIGHT);
    x.as(0, 5);
    due("BAD ahead of KIND, the bar", x.as(8, 5), BAD);
    due("BAD ahead of KIND, the kind", x.as(0, 6), BAD);
    due("the status is the one before", x.status(), 3);
  }

  private static void asks() {
    sentence("30: An ASK (0, 1) of a BAR. BAD");
    edge("bar", b -> with(EIGHT).ask(b, 0), 0, 1, -1);
    edge("bar", b -> with(EIGHT).ask(b, 0), 7, 4 + 7 - 1000, 8);
    edge("what", what -> with(EIGHT).ask(3, what), 0, -96, -1);
    edge("what", what -> with(EIGHT).ask(3, what), 1, 99, 2);
    due("no basket", new TypeBars().ask(0, 0), BAD);
    sentence("30: THE TRACE is empty ahead of it");
    TypeBars x = with(EIGHT);
    x.ask(1, 0);
    traceIs("heavy size", x, 12, 11, 10, 24, 21, 20);
    x.ask(3, 0);
    traceIs("dead size, shorter", x, 13, 10);
    x.ask(8, 0);
    x.ask(-1, 0);
    x.ask(0, 2);
    x.ask(0, -1);
    traceIs("what is refused changes nothing", x, 13, 10);
    feed(x, "p1;");
    x.basket();
    traceIs("a new basket neither", x, 13, 10);
    x.ask(0, 1);
    traceIs("plain mark", x, 21, 20);
    sentence("4: HEIGHT within MARK, at its TOP and HANGING");
    x = with("h4;h4;");
    press(x, 1);
    x.ticks(5);
    due("mark at the top", x.ask(1, 1), 2 * (1 + 5));
    due("size at the top", x.ask(1, 0), 0 - (4 + 2 * (1 + 5)));
    x.ticks(5);
    due("mark at rest", x.ask(1, 1), 2);
    press(x, 0, 1);
    x.ticks(5);
    due("mark of one that hangs at 1", x.ask(1, 1), 4);
  }

  private static void asked(int bar, int what, int due, int... bodies) {
    sentence("4: the BODY told for the KIND begins, else that of the nearest KIND that it is, else the one that is lent");
    TypeBars x = with("p1;h2;s3;d4;b1;");
    for (int b : new int[] {1, 4, 2}) {
      x.key(b);
      x.ticks(1);
    }
    // Heights are 0 3 1 0 0: the heavy one is at its top, the blank is at rest again.
    due("ask " + what + " of " + bar, x.ask(bar, what), due);
    traceIs("ask " + what + " of " + bar, x, bodies);
  }

  private static void everyAsk() {
    asked(0, 0, 1 + 0, 11, 10, 21, 20);
    asked(0, 1, 0, 21, 20);
    asked(1, 0, -(2 + 2 * (1 + 3)), 12, 11, 10, 24, 21, 20);
    asked(1, 1, 2 * (1 + 3), 24, 21, 20);
    asked(2, 0, 3 + (2 + 1 - 1000), 11, 10, 22, 21, 20);
    asked(2, 1, 2 + 1 - 1000, 22, 21, 20);
    asked(3, 0, 4 - 100, 13, 10);
    asked(3, 1, 3 - (4 - 100), 23, 20, 13, 10);
    asked(4, 0, 2 * (1 - 100), 14, 13, 10);
    asked(4, 1, 4 - 2 * (1 - 100), 23, 20, 14, 13, 10);
  }

  private static void traceIs(String what, TypeBars x, int... bodies) {
    sentence("31: Number i of THE TRACE; NONE");
    for (int i = 0; i < bodies.length; i++) due(what + ", " + i, x.trace(i), bodies[i]);
    for (int i : new int[] {bodies.length, bodies.length + 1, 15, 16, 17, MAX, -1, -2, MIN}) {
      due(what + ", " + i, x.trace(i), NONE);
    }
  }

  private static void counts() {
    sentence("32: How many. BAD");
    edge("what", what -> new TypeBars().count(what), 0, 0, -1);
    edge("what", what -> new TypeBars().count(what), 8, 0, 9);
    sentence("32: all full");
    TypeBars x = with("p1;".repeat(8));
    for (int r = 0; r < 8; r++) x.row(r, 0, 40);
    for (int i = 0; i < 20; i++) {
      x.key(0);
      x.ticks(2);
    }
    for (int b = 0; b < 8; b++) x.key(b);
    due("all move", x.count(4), 255);
    x.ticks(1);
    for (int i = 0; i < 61; i++) x.feed(';');
    int[] full = {8, 8, 41, 20, 0, 255, 20, 24, 60};
    for (int what = 0; what <= 8; what++) due("count " + what, x.count(what), full[what]);
    sentence("32: 6 COLUMNS of the PAPER in which anything is");
    x = with("b1;p1;d1;");
    int[] struck = {0, 1, 2, 1, 0, 2};
    int[] columns = {0, 1, 2, 2, 2, 3}, at = {1, 2, 2, 3, 4, 4};
    for (int i = 0; i < struck.length; i++) {
      x.key(struck[i]);
      x.ticks(2);
      due("columns behind strike " + i, x.count(6), columns[i]);
      due("the carriage behind strike " + i, x.count(3), at[i]);
    }
  }

  /** Row 0 of 3 ints, row 1 of 3 bytes, a plain bar; the latest finding is KIND. */
  private static TypeBars found() {
    TypeBars x = with("p1;p1;");
    x.row(0, 2, 3);
    x.row(1, 0, 3);
    due("KIND", x.as(0, 5), KIND);
    return x;
  }

  private static void statusBehind(String what, int due, java.util.function.ToIntFunction<TypeBars> call) {
    TypeBars x = found();
    call.applyAsInt(x);
    due(what, x.status(), due);
    due(what + ", told again", x.status(), due);
  }

  private static void status() {
    sentence("33: the number of its FINDING");
    statusBehind("row SIZE", 4, x -> x.row(2, 0, -1));
    statusBehind("set NULL", 1, x -> x.set(2, 0, 0));
    statusBehind("set PLACE", 2, x -> x.set(0, 3, 0));
    statusBehind("copy NULL", 1, x -> x.copy(0, 0, 2, 0, 0));
    statusBehind("copy STORE", 5, x -> x.copy(0, 0, 1, 0, 0));
    statusBehind("copy PLACE", 2, x -> x.copy(0, 0, 0, 0, 4));
    statusBehind("drop NULL", 1, x -> x.drop(2));
    statusBehind("pace NULL", 1, x -> x.pace(2, 0, 1));
    statusBehind("pace PLACE", 2, x -> x.pace(0, 3, 1));
    statusBehind("better NULL", 1, x -> x.better(2, 0, 1, 0));
    statusBehind("better PLACE", 2, x -> x.better(0, 3, 1, 0));
    statusBehind("fits NULL", 1, x -> x.fits(0, 2, 0, 1, 0));
    statusBehind("fits PLACE", 2, x -> x.fits(0, 0, 3, 1, 0));
    sentence("33: 0: it had none");
    statusBehind("row", 0, x -> x.row(2, 0, 0));
    statusBehind("set", 0, x -> x.set(0, 0, 0));
    statusBehind("copy", 0, x -> x.copy(0, 0, 0, 0, 0));
    statusBehind("drop", 0, x -> x.drop(0));
    statusBehind("pace", 0, x -> x.pace(0, 0, 1));
    statusBehind("pace NONE", 0, x -> x.set(0, 0, 9) + x.as(0, 5) + x.pace(0, 0, 1));
    statusBehind("better NONE", 0, x -> x.better(0, 0, 1, 0));
    statusBehind("fits", 0, x -> x.fits(0, 0, 0, 1, 0));
    statusBehind("as", 0, x -> x.as(0, 1));
    sentence("33: of a call that was not BAD, STATE, FULL");
    statusBehind("row BAD", 3, x -> x.row(0, 0, 41));
    statusBehind("set BAD", 3, x -> x.set(8, 0, 0));
    statusBehind("copy BAD", 3, x -> x.copy(0, 0, 8, 0, 0));
    statusBehind("drop BAD", 3, x -> x.drop(-1));
    statusBehind("pace BAD", 3, x -> x.pace(0, 0, 13));
    statusBehind("better BAD", 3, x -> x.better(0, 0, 1, 2));
    statusBehind("fits BAD", 3, x -> x.fits(2, 0, 0, 1, 0));
    statusBehind("as BAD", 3, x -> x.as(2, 0));
    TypeBars x = new TypeBars();
    x.drop(0);
    due("pace", x.pace(0, 0, 1), STATE);
    due("better", x.better(0, 0, 1, 0), STATE);
    due("STATE", x.status(), 1);
    otherCalls();
  }

  private static void otherCalls() {
    sentence("33: of the latest call with a ROW, or as()");
    statusBehind("feed", 3, x -> x.feed('p'));
    statusBehind("feed BAD", 3, x -> x.feed(256));
    statusBehind("basket", 3, x -> x.feed('p') + x.feed('1') + x.feed(';') + x.basket());
    statusBehind("basket with a fault", 3, x -> x.basket());
    statusBehind("fault", 3, x -> x.fault());
    statusBehind("ticks", 3, x -> x.ticks(1));
    statusBehind("key", 3, x -> x.key(0));
    statusBehind("free", 3, x -> x.free());
    statusBehind("back", 3, x -> x.back());
    statusBehind("swap", 3, x -> x.swap(0, 1));
    statusBehind("undo", 3, x -> x.back() + x.undo());
    statusBehind("undo STATE", 3, x -> x.undo());
    statusBehind("bar", 3, x -> x.bar(0, 0));
    statusBehind("paper", 3, x -> x.paper(0));
    statusBehind("height", 3, x -> x.height(0, 0));
    statusBehind("later", 3, x -> x.later(0, 0));
    statusBehind("jam", 3, x -> x.jam(0));
    statusBehind("waits", 3, x -> x.waits(0));
    statusBehind("chance", 3, x -> x.chance(0, 0, 0));
    statusBehind("drawn", 3, x -> x.drawn(0, 1, 0));
    statusBehind("image", 3, x -> x.image(0));
    statusBehind("restore", 3, x -> x.image(0) + x.restore(0));
    statusBehind("restore STATE", 3, x -> x.restore(1));
    statusBehind("kind", 3, x -> x.kind(0));
    statusBehind("ask", 3, x -> x.ask(0, 0));
    statusBehind("trace", 3, x -> x.trace(0));
    statusBehind("count", 3, x -> x.count(0));
  }

  private static void manyCalls() {
    sentence("An object is used for at most 512 calls");
    TypeBars x = with("p1;");
    for (int i = 0; i < 252; i++) {
      due("call " + (5 + 2 * i), x.key(0), 1);
      due("call " + (6 + 2 * i), x.ticks(2), 0);
    }
    due("call 509", x.count(2), 504);
    due("call 510", x.count(3), 20);
    due("call 511", x.undo(), 23);
    due("call 512", x.bar(0, 2), 1);
  }

  public static void main(String[] args) {
    newOne();
    kinds();
    asks();
    everyAsk();
    counts();
    status();
    manyCalls();
    end();
  }
}
