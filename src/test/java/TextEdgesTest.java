import java.util.List;

/** The tape and its texts (promises 6 to 8), edge by edge: each sentence of the document that names a boundary. */
public final class TextEdgesTest extends Checks {
  private static void readsWell(String text, int bars) {
    TypeBars x = new TypeBars();
    feed(x, text);
    due("'" + text + "'", x.basket(), bars);
    due("'" + text + "': bars", x.count(1), bars);
    due("'" + text + "': the tape", x.count(8), 0);
    due("'" + text + "': no fault", x.fault(), 0);
  }

  private static void faulty(String text, int number, int place) {
    TypeBars x = new TypeBars();
    feed(x, text);
    due("'" + text + "': place", x.basket(), -1000100 - place);
    due("'" + text + "': number", x.fault(), number);
    due("'" + text + "': no basket", x.count(1), 0);
    due("'" + text + "': the tape", x.count(8), 0);
  }

  private static String times(int n, String text) { return text.repeat(n); }

  private static void bytesCome() {
    sentence("6: A byte (0 to 255) comes behind the tape: how many it has. BAD");
    edge("byte", v -> new TypeBars().feed(v), 0, 1, -1);
    edge("byte", v -> new TypeBars().feed(v), 255, 1, 256);
    TypeBars x = new TypeBars();
    due("what is BAD comes not", x.feed(256 + 'p'), BAD);
    due("the tape", x.count(8), 0);
    sentence("6: THE TAPE has at most 60 bytes. FULL");
    for (int i = 1; i <= 60; i++) due("byte " + i, x.feed('1'), i);
    due("byte 61", x.feed(';'), FULL);
    due("byte 61 of 0", x.feed(0), FULL);
    due("byte 61 of 255", x.feed(255), FULL);
    due("BAD ahead of FULL", x.feed(256), BAD);
    due("BAD ahead of FULL, below", x.feed(-1), BAD);
    due("the tape", x.count(8), 60);
    due("status", x.status(), 0);
    sentence("7: The tape, empty then, is read");
    due("60 bytes", x.basket(), -1000100);
    due("the tape", x.count(8), 0);
    due("a byte comes first again", x.feed('p'), 1);
    due("none of the bytes before is there", x.basket(), -1000101);
    due("nor of this one", x.basket(), -1000100);
  }

  private static void everyByte() {
    sentence("TOKENS: letters a to z, NUMBERS, SIGNS , and ; nothing else, no blanks");
    for (int v = 0; v < 256; v++) {
      String one = String.valueOf((char) v);
      boolean figure = v >= '0' && v <= '9';
      if ("phsdb".contains(one)) readsWell(one + "1;", 1);
      else faulty(one + "1;", 1, 0);
      if (v >= '1' && v <= '4') readsWell("p" + one + ";", 1);
      else faulty("p" + one + ";", figure ? 2 : 1, 1);
      if (v == ';') readsWell("p1" + one, 1);
      else faulty("p1" + one, figure ? 2 : 1, figure ? 1 : 2);
      if ("phsdb".contains(one)) faulty("p1;" + one, 1, 4);
      else faulty("p1;" + one, 1, 3);
    }
  }

  private static void numbers() {
    sentence("SORT RISE ; (RISE: 1 to 4), FAULT 2 a NUMBER that is not as told");
    for (int v = 0; v <= 99; v++) {
      String two = "p" + v / 10 + v % 10 + ";";
      if (v >= 1 && v <= 4) {
        readsWell(two, 1);
        due(two, with(two).bar(0, 0), v);
      } else {
        faulty(two, 2, 1);
      }
    }
    for (int v = 1; v <= 4; v++) due("p" + v, with("p" + v + ";").bar(0, 0), v);
    sentence("FAULT 1: a run of three figures, at its first");
    for (String run : new String[] {"000", "001", "004", "100", "123", "999", "0001", "12345", times(59, "1")}) {
      faulty("p" + run, 1, 1);
      if (run.length() < 59) faulty("h" + run + ";", 1, 1);
      if (run.length() < 59) faulty(run + ";", 1, 0);
    }
    faulty("p1;p100;", 1, 4);
    faulty("p1;100", 1, 3);
    faulty(times(60, "7"), 1, 0);
    sentence("FAULT 1 ahead of 2, of one TOKEN the least");
    faulty("9p1;", 1, 0);
    faulty("99;", 1, 0);
    faulty("p1;0;", 1, 3);
    faulty("p1;55", 1, 3);
    sentence("FAULTS: the first TOKEN that has one");
    faulty("p5,", 2, 1);
    faulty("p5;x", 2, 1);
    faulty("p1;h0;?", 2, 4);
    faulty("x5;", 1, 0);
    faulty("p1,p9;", 1, 2);
    faulty(times(7, "p1;") + "p0;p", 2, 22);
  }

  private static void ends() {
    sentence("basket: bar { bar }; FAULT 1 at the end: how many bytes there are");
    faulty("", 1, 0);
    faulty("p", 1, 1);
    faulty("p1", 1, 2);
    faulty("p01", 1, 3);
    readsWell("p1;", 1);
    readsWell("p01;", 1);
    for (int bars = 1; bars < 8; bars++) {
      faulty(times(bars, "s2;") + "s", 1, 3 * bars + 1);
      faulty(times(bars, "s2;") + "s2", 1, 3 * bars + 2);
      faulty(times(bars, "s2;") + "s02", 1, 3 * bars + 3);
      readsWell(times(bars, "s2;") + "s2;", bars + 1);
    }
    faulty(times(7, "b04;") + "b04", 1, 31);
    readsWell(times(8, "b04;"), 8);
    sentence("BARS 0 .. 7, 8 at most; FAULT 3 a bar more than there is room for (its letter)");
    for (String ninth : new String[] {"p", "h1", "s1;", "d5;", "b100;", "p;", "h,", "p1;p1;"}) {
      faulty(times(8, "p1;") + ninth, 3, 24);
      faulty(times(8, "p01;") + ninth, 3, 32);
    }
    faulty(times(20, "p1;"), 3, 24);
    sentence("FAULT 1 ahead of 3, of one TOKEN the least");
    for (String ninth : new String[] {"a", "x1;", ";", ",", "1", "100", " ", "P1;", String.valueOf((char) 240)}) {
      faulty(times(8, "p1;") + ninth, 1, 24);
    }
    sentence("FAULT 2 ahead of 3, the first TOKEN");
    faulty(times(7, "p1;") + "p5;p1;", 2, 22);
    faulty(times(7, "p1;") + "p1,p1;", 1, 23);
  }

  private static void numbered() {
    sentence("8: The number of the latest FAULT; 0 before one");
    TypeBars x = new TypeBars();
    due("before one", x.fault(), 0);
    feed(x, "p1;");
    x.basket();
    due("behind a text without", x.fault(), 0);
    feed(x, "p9;");
    due("a fault", x.basket(), -1000101);
    due("2", x.fault(), 2);
    due("2 again", x.fault(), 2);
    feed(x, times(9, "p1;"));
    due("another", x.basket(), -1000124);
    due("3", x.fault(), 3);
    feed(x, "p1;");
    due("none", x.basket(), 1);
    due("the latest is 3 yet", x.fault(), 3);
    due("nothing there", x.basket(), -1000100);
    due("1", x.fault(), 1);
  }

  /** Bars that move and that hang, an exchange, a paper that is written on, 18 acts that can be undone. */
  private static TypeBars busy() {
    TypeBars x = with("p1;h1;p4;p4;d1;b1;");
    for (int i = 0; i < 4; i++) {
      press(x, i == 2 ? 5 : 0);
      x.ticks(2);
    }
    x.swap(1, 5);
    press(x, 2, 3);
    x.ticks(1);
    press(x, 1);
    x.ticks(1);
    x.back();
    x.undo();
    x.ask(1, 0);
    return x;
  }

  private static void allStays() {
    sentence("7: -1000100 less the place of a FAULT: all stays");
    for (String text : new String[] {"", "p", "p5;", "x", "100", times(9, "p1;"), times(60, ";")}) {
      TypeBars x = busy();
      List<String> before = look(x);
      feed(x, text);
      due("'" + text + "' is none", x.basket() <= -1000100 ? 1 : 0, 1);
      List<String> then = look(x);
      due("'" + text + "': status", x.status(), 0);
      before.set(before.indexOf("fault: 0"), "fault: " + x.fault());
      alike("'" + text + "'", then, before);
      due("'" + text + "': what can be undone", x.undo(), 17);
    }
  }

  private static void inPlace() {
    sentence("A BASKET that is read stands in place of the one before");
    TypeBars x = busy();
    due("acts before", x.count(7), 18);
    feed(x, "d1;p1;s2;");
    due("bars", x.basket(), 3);
    due("there is no bar 3", x.bar(3, 0), BAD);
    for (int b = 0; b < 3; b++) {
      due("place of " + b, x.bar(b, 1), b);
      due("height of " + b, x.bar(b, 2), 0);
      due("time of " + b, x.bar(b, 3), NONE);
      due("hangs " + b, x.bar(b, 4), 0);
    }
    due("moving and hanging", x.count(4) + x.count(5), 0);
    due("column", x.count(3), 0);
    due("columns with anything", x.count(6), 0);
    for (int c = 0; c < 20; c++) due("paper " + c, x.paper(c), NONE);
    due("acts", x.count(7), 0);
    due("undo", x.undo(), STATE);
    due("nothing hangs", x.free(), STATE);
    due("nothing jams", x.jam(0), NONE);
    due("back", x.back(), 0);
    due("an act of its own", x.undo(), 0);
    due("kind", x.kind(0), 4);
    sentence("PLACE of each is its number");
    x = with("p1;p2;p3;p4;h1;h2;h3;h4;");
    for (int b = 0; b < 8; b++) due("bar " + b, x.bar(b, 1), b);
    sentence("A BASKET that is read of more BARS than the one before");
    x = with("p1;");
    feed(x, times(8, "p4;"));
    due("bars", x.basket(), 8);
    due("the last", x.bar(7, 1), 7);
    due("none more", x.bar(8, 1), BAD);
  }

  public static void main(String[] args) {
    bytesCome();
    everyByte();
    numbers();
    ends();
    numbered();
    allStays();
    inPlace();
    end();
  }
}
