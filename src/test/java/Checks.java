import java.util.ArrayList;
import java.util.List;
import java.util.function.IntUnaryOperator;

/** What tests by hand-worked answers share; each of them extends it. */
class Checks {
  static final int NONE = TypeBars.NONE, BAD = TypeBars.BAD, STATE = TypeBars.STATE, FULL = TypeBars.FULL;
  static final int NULL = -1000011, PLACE = -1000012, KIND = -1000013, SIZE = -1000014, STORE = -1000015;
  static final int MAX = Integer.MAX_VALUE, MIN = Integer.MIN_VALUE;

  private static final int MOST_TOLD = 100;
  private static String sentence = "";
  private static int wrong = 0, asked = 0;

  /** The words of the document that the answers behind it are about. */
  static void sentence(String words) { sentence = words + ": "; }

  static void due(String what, int got, int want) {
    asked++;
    if (got != want) fails(what + " answered " + got + ", due is " + want);
  }

  static void fails(String what) {
    wrong++;
    if (wrong <= MOST_TOLD) System.out.println(sentence + what);
  }

  /** The last number that is taken, with its answer, and the first beyond it, which is BAD, as are all further on. */
  static void edge(String what, IntUnaryOperator call, int last, int due, int first) {
    due(what + " " + last, call.applyAsInt(last), due);
    int farthest = first > last ? MAX : MIN;
    for (int beyond : new int[] {first, first + 31 * (first - last), first + 255 * (first - last), farthest}) {
      due(what + " " + beyond, call.applyAsInt(beyond), BAD);
    }
  }

  static void feed(TypeBars x, String text) {
    for (int i = 0; i < text.length(); i++) x.feed(text.charAt(i));
  }

  static TypeBars with(String text) {
    TypeBars x = new TypeBars();
    feed(x, text);
    due("basket of " + text, x.basket(), (int) text.chars().filter(c -> c == ';').count());
    return x;
  }

  static void fillRow(TypeBars x, int row, int... items) {
    x.row(row, 2, items.length);
    for (int i = 0; i < items.length; i++) x.set(row, i, items[i]);
  }

  static void press(TypeBars x, int... bars) {
    for (int b : bars) x.key(b);
  }

  /** All that can be seen without a change, but the status; some 100 calls at most. */
  static List<String> look(TypeBars x) {
    List<String> seen = new ArrayList<>();
    for (int what = 0; what <= 8; what++) seen.add("count " + what + ": " + x.count(what));
    for (int b = 0; b < x.count(1); b++) {
      for (int what = 0; what <= 5; what++) seen.add("bar " + b + " " + what + ": " + x.bar(b, what));
      seen.add("kind " + b + ": " + x.kind(b));
    }
    for (int c = 0; c < 20; c++) seen.add("paper " + c + ": " + x.paper(c));
    for (int i = 0; i < 7; i++) seen.add("trace " + i + ": " + x.trace(i));
    seen.add("fault: " + x.fault());
    return seen;
  }

  static void alike(String what, List<String> got, List<String> want) {
    asked++;
    for (int i = 0; i < Math.max(got.size(), want.size()); i++) {
      String g = i < got.size() ? got.get(i) : "nothing", w = i < want.size() ? want.get(i) : "nothing";
      if (!g.equals(w)) {
        fails(what + ": there is " + g + ", due is " + w);
        return;
      }
    }
  }

  static void end() {
    System.out.println(wrong == 0 ? asked + " answers are as due" : wrong + " answers are not as due");
    if (wrong != 0) System.exit(1);
  }
}
