import java.lang.reflect.Method;
import java.util.ArrayList;
import java.util.LinkedHashMap;
import java.util.List;
import java.util.Map;
import java.util.function.Supplier;

/**
 * "What is refused, or found, changes nothing but status()", and what is only asked or foretold changes nothing.
 * Two objects are made alike, one of them gets the call, and then both must answer all further calls alike.
 */
public final class RefusalsTest extends Checks {
  private static final Map<String, Method> CALLS = new LinkedHashMap<>();
  private static final int[] FAR = {MIN, MIN + 1, -1000000, -41, -1, 41, 61, 256, 1000000, MAX - 1, MAX};

  private static int call(TypeBars x, String words) {
    String[] parts = words.split(" ");
    Object[] numbers = new Object[parts.length - 1];
    for (int i = 1; i < parts.length; i++) numbers[i - 1] = Integer.valueOf(parts[i]);
    try {
      return (Integer) CALLS.get(parts[0]).invoke(x, numbers);
    } catch (ReflectiveOperationException e) {
      fails(words + " ends with " + e.getCause());
      return 0;
    }
  }

  private static void add(List<String> seen, TypeBars x, String... calls) {
    for (String words : calls) seen.add(words + ": " + call(x, words));
  }

  /** One way to go on, out of several, as the calls of one object are few. */
  private static List<String> goOn(TypeBars x, int way) {
    List<String> seen = new ArrayList<>();
    int bars = x.count(1);
    switch (way) {
      case 0:
        for (int left = x.count(7); left >= 0; left--) {
          add(seen, x, "undo", "count 2", "count 4", "count 5", "count 6");
          for (int b = 0; b < bars; b++) seen.add("height of " + b + ": " + x.bar(b, 2));
        }
        break;
      case 1:
        for (int r = 0; r < 8; r++) {
          for (int i : new int[] {0, 1, 2, 3, 4, 5, 38, 39}) add(seen, x, "fits 0 " + r + " " + i + " 1 2");
          add(seen, x, "pace " + r + " 0 3", "set " + r + " 0 70000", "set " + r + " 5 300", "drop " + r);
        }
        break;
      case 2:
        add(seen, x, "restore 0");
        seen.addAll(look(x));
        add(seen, x, "restore 1");
        seen.addAll(look(x));
        break;
      case 3:
        add(seen, x, "feed 59", "basket");
        seen.addAll(look(x));
        break;
      default:
        add(seen, x, "jam 0", "jam 1", "later 3 0", "later 3 1", "later 60 2", "chance 60 3 0", "drawn 60 7 0",
            "drawn 60 7 1", "better 0 0 3 0", "better 0 0 3 1", "pace 0 0 3", "fits 0 0 0 3 1", "ask 0 0", "ask 0 1");
        for (int b = 0; b < bars; b++) add(seen, x, "waits " + b, "height " + b + " 2", "key " + b);
        add(seen, x, "ticks 3");
        seen.addAll(look(x));
        break;
    }
    return seen;
  }

  private static int statusDue(String words, int answer, int before) {
    if (answer <= -1000011 && answer >= -1000015) return -1000010 - answer;
    boolean tells = words.startsWith("as ") || words.startsWith("fits ") || words.startsWith("pace ")
        || words.startsWith("better ");
    return tells && answer != BAD && answer != STATE ? 0 : before;
  }

  private static void changesNothing(Supplier<TypeBars> scene, String words, int ways) {
    TypeBars x = scene.get(), y = scene.get();
    int answer = call(x, words);
    due(words + ": status", x.status(), statusDue(words, answer, y.status()));
    alike("behind " + words, look(x), look(y));
    for (int way = 0; way < ways; way++) {
      x = scene.get();
      y = scene.get();
      call(x, words);
      alike("behind " + words + ", way " + way, goOn(x, way), goOn(y, way));
    }
  }

  private static void refused(Supplier<TypeBars> scene, int ways, int due, String... calls) {
    for (String words : calls) {
      due(words, call(scene.get(), words), due);
      changesNothing(scene, words, ways);
    }
  }

  private static void onlyAsked(Supplier<TypeBars> scene, int ways, String... calls) {
    for (String words : calls) changesNothing(scene, words, ways);
  }

  private static void someRows(TypeBars x) {
    x.row(0, 0, 6);
    for (int i = 0; i < 6; i++) x.set(0, i, (i * 2) % 5);
    x.row(1, 1, 6);
    x.row(2, 2, 40);
    x.set(2, 39, 3);
    x.row(3, 0, 0);
  }

  private static TypeBars rowsOnly() {
    TypeBars x = new TypeBars();
    someRows(x);
    x.set(4, 0, 0);
    feed(x, "p1;x");
    return x;
  }

  private static TypeBars resting() {
    TypeBars x = with("p2;h3;s4;d1;b2;");
    someRows(x);
    return x;
  }

  /** Bars move and hang, two places are exchanged, more acts than are kept, one image of two, a tape begun. */
  private static TypeBars busy() {
    TypeBars x = resting();
    for (int i = 0; i < 9; i++) {
      x.key(3);
      x.ticks(2);
    }
    x.image(1);
    x.swap(0, 4);
    x.key(1);
    x.key(2);
    x.ticks(1);
    x.key(0);
    x.ticks(1);
    x.feed('q');
    x.basket();
    x.feed('p');
    x.feed('4');
    x.ask(1, 0);
    x.copy(0, 0, 1, 0, 1);
    due("busy", x.count(4) * 100 + x.count(5) + x.count(7), 130);
    return x;
  }

  /** Eight bars that hang, eight rows of 40, 60 bytes, 24 acts, the end of the paper, two images. */
  private static TypeBars full() {
    TypeBars x = with("p1;".repeat(8));
    for (int r = 0; r < 8; r++) x.row(r, r % 3, 40);
    for (int i = 0; i < 20; i++) {
      x.key(i % 8);
      x.ticks(2);
    }
    x.image(0);
    x.image(1);
    for (int b = 0; b < 8; b++) x.key(b);
    x.ticks(1);
    for (int i = 0; i < 60; i++) x.feed('p');
    return x;
  }

  private static TypeBars late() {
    TypeBars x = with("p1;");
    for (int i = 0; i < 416; i++) x.ticks(24);
    x.ticks(15);
    return x;
  }

  private static final String[] ALWAYS_BAD = {"row -1 0 1", "row 8 0 1", "row 0 -1 1", "row 0 3 1", "row 0 0 41",
      "row 8 0 -1", "set -1 0 1", "set 8 0 1", "copy -1 0 0 0 1", "copy 8 0 0 0 1", "copy 0 0 -1 0 1",
      "copy 0 0 8 0 1", "drop -1", "drop 8", "feed -1", "feed 256", "key -1", "key 8", "swap -1 0", "swap 0 8",
      "swap 0 0", "bar -1 0", "bar 8 0", "bar 0 6", "bar 0 -1", "paper -1", "paper 20", "height -1 0", "height 8 0",
      "height 0 -1", "height 0 61", "waits -1", "waits 8", "pace -1 0 1", "pace 8 0 1", "pace 0 0 0", "pace 0 0 13",
      "better -1 0 1 0", "better 8 0 1 0", "better 0 0 0 0", "better 0 0 13 0", "better 0 0 1 -1", "better 0 0 1 2",
      "fits -1 0 0 1 0", "fits 8 0 0 1 0", "fits 0 -1 0 1 0", "fits 0 8 0 1 0", "fits 0 0 0 0 0", "fits 0 0 0 13 0",
      "fits 0 0 0 1 -1", "fits 0 0 0 1 4", "image -1", "image 2", "restore -1", "restore 2", "kind -1", "kind 8",
      "as -1 0", "as 8 0", "as 0 -1", "as 0 6", "ask -1 0", "ask 8 0", "ask 0 -1", "ask 0 2", "count -1", "count 9"};

  private static final String[] BAD_WITH_BASKET = {"ticks 0", "ticks 25", "ticks -1", "later -1 0", "later 61 0",
      "later 0 -1", "later 0 3", "jam -1", "jam 2", "chance -1 0 0", "chance 61 0 0", "chance 0 -1 0",
      "chance 0 11 0", "chance 0 0 -1", "chance 0 0 2", "drawn -1 1 0", "drawn 61 1 0", "drawn 0 0 0",
      "drawn 0 1000000 0", "drawn 0 1 -1", "drawn 0 1 2"};

  private static final String[] BAD_WITHOUT_BASKET = {"key 0", "swap 0 1", "bar 0 0", "height 0 0", "waits 0",
      "fits 0 0 0 1 0", "kind 0", "as 0 0", "ask 0 0"};

  private static final String[] STATE_WITHOUT_BASKET = {"ticks 1", "ticks 24", "ticks 0", "ticks 25", "free", "back",
      "undo", "later 0 0", "later 61 3", "jam 0", "jam 2", "pace 0 0 1", "pace 7 0 1", "pace 0 40 1",
      "better 0 0 1 0", "better 7 0 1 0", "better 0 40 1 0", "chance 0 0 0", "chance 61 11 2", "drawn 0 1 0",
      "drawn 61 0 2", "image 0", "image 1", "restore 0", "restore 1"};

  private static final String[] ONLY_ASKED = {"fault", "bar 0 2", "bar 1 3", "bar 4 4", "paper 0", "paper 19",
      "height 0 0", "height 1 60", "later 0 0", "later 60 1", "later 5 2", "jam 0", "jam 1", "waits 0", "waits 4",
      "pace 0 0 1", "pace 0 0 6", "pace 2 28 12", "better 0 0 3 0", "better 2 28 12 1", "fits 0 0 0 6 0",
      "fits 1 0 0 6 1", "fits 2 0 0 3 2", "fits 3 2 0 12 3", "chance 60 0 0", "chance 0 10 1", "chance 5 5 0",
      "drawn 60 1 0", "drawn 60 999999 1", "drawn 0 1 0", "kind 0", "as 0 0", "trace 0", "trace -1", "trace 16",
      "count 0", "count 7", "count 8", "status"};

  private static void withoutBasket() {
    List<Supplier<TypeBars>> scenes = List.of(TypeBars::new, RefusalsTest::rowsOnly);
    for (Supplier<TypeBars> scene : scenes) {
      sentence("refused without a basket");
      refused(scene, 5, BAD, ALWAYS_BAD);
      refused(scene, 5, BAD, BAD_WITHOUT_BASKET);
      refused(scene, 5, STATE, STATE_WITHOUT_BASKET);
      onlyAsked(scene, 5, ONLY_ASKED);
      refused(scene, 5, SIZE, "row 0 0 -1", "row 3 2 " + MIN);
      refused(scene, 5, NULL, "set 7 0 1", "drop 7", "copy 7 0 7 0 0", "copy 6 0 7 -1 1");
    }
  }

  private static void found(Supplier<TypeBars> scene) {
    sentence("found");
    refused(scene, 5, SIZE, "row 0 0 -1", "row 7 2 " + MIN);
    refused(scene, 5, NULL, "set 7 0 1", "drop 7", "copy 7 0 0 0 1", "copy 0 0 7 0 1", "pace 7 0 1", "better 7 0 1 0",
        "fits 0 7 0 1 0");
    refused(scene, 5, PLACE, "set 0 6 1", "set 0 -1 1", "set 3 0 1", "copy 0 0 0 1 6", "copy 0 0 0 0 -1",
        "copy 0 1 0 0 " + MAX, "pace 0 6 1", "pace 0 -1 1", "better 0 1 6 0", "fits 0 0 0 7 0", "fits 0 3 0 1 3");
    refused(scene, 5, STORE, "copy 0 0 1 0 1", "copy 1 0 2 0 0", "copy 2 -1 0 0 1");
    refused(scene, 5, KIND, "as 0 2", "as 3 5", "as 4 1");
  }

  private static void withBasket() {
    List<Supplier<TypeBars>> scenes = List.of(RefusalsTest::resting, RefusalsTest::busy);
    for (Supplier<TypeBars> scene : scenes) {
      sentence("refused with a basket");
      refused(scene, 5, BAD, ALWAYS_BAD);
      refused(scene, 5, BAD, BAD_WITH_BASKET);
      refused(scene, 5, BAD, "key 5", "swap 0 5", "swap 5 0", "bar 5 0", "height 5 0", "waits 5", "fits 5 0 0 1 0",
          "kind 5", "as 5 0", "ask 5 0");
      refused(scene, 5, STATE, "restore 0");
      onlyAsked(scene, 5, ONLY_ASKED);
      found(scene);
    }
    sentence("refused at rest");
    refused(RefusalsTest::resting, 5, STATE, "free", "undo", "restore 1");
    sentence("refused as the bar moves or hangs");
    refused(RefusalsTest::busy, 5, STATE, "key 0", "key 1", "key 2");
  }

  private static void whenFull() {
    sentence("refused, all full");
    refused(RefusalsTest::full, 5, BAD, ALWAYS_BAD);
    refused(RefusalsTest::full, 5, BAD, BAD_WITH_BASKET);
    refused(RefusalsTest::full, 5, FULL, "feed 0", "feed 112", "feed 255");
    refused(RefusalsTest::full, 5, STATE, "key 0", "key 7");
    refused(RefusalsTest::full, 5, SIZE, "row 0 0 -1");
    refused(RefusalsTest::full, 5, PLACE, "set 7 40 1", "copy 0 0 3 1 40", "pace 0 29 12", "fits 0 0 29 12 0");
    refused(RefusalsTest::full, 5, STORE, "copy 0 0 1 0 40");
    onlyAsked(RefusalsTest::full, 5, ONLY_ASKED);
    sentence("refused at TICK 9999");
    refused(RefusalsTest::late, 0, FULL, "ticks 1", "ticks 24");
    refused(RefusalsTest::late, 0, BAD, "ticks 0", "ticks 25");
    onlyAsked(RefusalsTest::late, 0, "later 60 0", "drawn 60 1 0", "jam 0");
  }

  /** Each number of each call is far off, the others are as told: no call throws, and what is refused is unchanged. */
  private static void farOff() {
    sentence("far off");
    List<Supplier<TypeBars>> scenes = List.of(TypeBars::new, RefusalsTest::busy, RefusalsTest::full);
    for (Supplier<TypeBars> scene : scenes) {
      for (Map.Entry<String, Method> entry : CALLS.entrySet()) {
        for (int off = 0; off < entry.getValue().getParameterCount(); off++) {
          for (int far : FAR) oneFarOff(scene, entry.getKey(), entry.getValue().getParameterCount(), off, far);
        }
      }
    }
  }

  private static void oneFarOff(Supplier<TypeBars> scene, String name, int numbers, int off, int far) {
    StringBuilder words = new StringBuilder(name);
    for (int i = 0; i < numbers; i++) words.append(' ').append(i == off ? far : i == 3 ? 1 : 0);
    TypeBars x = scene.get(), y = scene.get();
    int answer = call(x, words.toString());
    if (answer > BAD || answer <= -1000100) return;
    alike("behind " + words, look(x), look(y));
  }

  public static void main(String[] args) {
    for (Method m : TypeBars.class.getDeclaredMethods()) {
      if (java.lang.reflect.Modifier.isPublic(m.getModifiers())) CALLS.put(m.getName(), m);
    }
    withoutBasket();
    withBasket();
    whenFull();
    farOff();
    end();
  }
}
