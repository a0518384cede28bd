import java.io.IOException;
import java.lang.management.ManagementFactory;
import java.lang.reflect.Constructor;
import java.lang.reflect.Field;
import java.lang.reflect.Method;
import java.lang.reflect.Modifier;
import java.nio.file.Files;
import java.nio.file.Path;
import java.util.Arrays;
import java.util.Map;
import java.util.Set;
import java.util.TreeMap;
import java.util.TreeSet;
import java.util.regex.Matcher;
import java.util.regex.Pattern;

/** The face of the class, the rules of LANGUAGE.md that a text can be searched for, and how much a call makes. */
public final class FaceTest {
  private static final Path PROGRAM = Path.of("src/main/java/TypeBars.java");
  private static final String[] FACE = {"row/3", "set/3", "copy/5", "drop/1", "feed/1", "basket/0", "fault/0",
      "ticks/1", "key/1", "free/0", "back/0", "swap/2", "undo/0", "bar/2", "paper/1", "height/2", "later/2", "jam/1",
      "waits/1", "pace/3", "better/4", "fits/5", "chance/3", "drawn/3", "image/1", "restore/1", "kind/1", "as/2",
      "ask/2", "trace/1", "count/1", "status/0"};
  private static final String[] FORBIDDEN = {"throw", "throws", "try", "catch", "synchronized", "assert", "lambda",
      "->", "::", "Exact\\(", "System\\.(?!arraycopy)", "Random", "Thread", "hashCode", "volatile", "protected",
      "package", "static \\{", "new [A-Z]\\w*\\([^)]*\\) \\{"};

  private static int wrong = 0;

  private static void must(boolean so, String what) {
    if (!so) {
      wrong++;
      System.out.println(what);
    }
  }

  private static void face() {
    Set<String> due = new TreeSet<>(Arrays.asList(FACE)), open = new TreeSet<>(), names = new TreeSet<>();
    for (String method : FACE) names.add(method.substring(0, method.indexOf('/')));
    must(Modifier.isFinal(TypeBars.class.getModifiers()), "the class is not final");
    for (Method m : TypeBars.class.getDeclaredMethods()) {
      if (Modifier.isPublic(m.getModifiers())) {
        open.add(m.getName() + "/" + m.getParameterCount());
        must(m.getReturnType() == int.class, m + " answers no int");
      } else {
        must(Modifier.isPrivate(m.getModifiers()), m + " is not private");
        must(!names.contains(m.getName()), m + " bears a public name");
      }
    }
    must(open.equals(due), "the face is " + open);
    for (Constructor<?> c : TypeBars.class.getDeclaredConstructors()) {
      must(Modifier.isPublic(c.getModifiers()) && c.getParameterCount() == 0, c + " is not as told");
    }
    Set<String> constants = new TreeSet<>();
    for (Field f : TypeBars.class.getDeclaredFields()) {
      if (Modifier.isPublic(f.getModifiers())) constants.add(f.getName());
      else must(Modifier.isPrivate(f.getModifiers()), f + " is not private");
      must(!Modifier.isStatic(f.getModifiers()) || Modifier.isFinal(f.getModifiers()), f + " is not final");
    }
    must(constants.equals(Set.of("NONE", "BAD", "STATE", "FULL")), "the constants are " + constants);
  }

  private static void classesInside() {
    Class<?>[] inside = TypeBars.class.getDeclaredClasses();
    must(inside.length <= 11, inside.length + " classes inside");
    for (Class<?> c : inside) {
      must(Modifier.isStatic(c.getModifiers()), c + " is not static");
      int fields = 0;
      for (Field f : c.getDeclaredFields()) {
        if (!Modifier.isStatic(f.getModifiers())) fields++;
        else must(Modifier.isFinal(f.getModifiers()), f + " is not final");
      }
      must(fields <= 20, c + " has " + fields + " fields");
      for (Method m : c.getDeclaredMethods()) must(m.getParameterCount() <= 7, m + " has too many parameters");
    }
  }

  private static void text() throws IOException {
    String code = Files.readString(PROGRAM);
    must(code.chars().allMatch(c -> c < 128), "a sign beyond 127");
    code = code.replaceAll("(?s)/\\*.*?\\*/", "").replaceAll("//[^\n]*", "");
    for (String word : FORBIDDEN) {
      String sought = Character.isLetter(word.charAt(0)) ? "\\b" + word : word;
      if (word.matches("\\w+")) sought += "\\b";
      Matcher m = Pattern.compile(sought).matcher(code);
      must(!m.find(), "it has " + word);
    }
    Matcher imports = Pattern.compile("import ([^;]*);").matcher(code);
    while (imports.find()) {
      must(Set.of("java.util.Arrays", "java.util.ArrayList", "java.util.List").contains(imports.group(1)),
          "it imports " + imports.group(1));
    }
    methodsAreShort(code);
    callsGoEightDeep(code);
  }

  private static void methodsAreShort(String code) {
    int since = 0, line = 0;
    for (String text : code.split("\n", -1)) {
      line++;
      if (text.matches("\\s+[\\w\\[\\] ]+\\([^;]*\\) \\{") && !text.matches("\\s+(if|for|while|switch|else)\\b.*")) since = line;
      if (text.matches("(    |        )\\}") && since > 0) {
        must(line - since <= 60, "a method of " + (line - since) + " lines ends at " + line);
        since = 0;
      }
    }
  }

  /** By the name of a method: the names of methods of the file that its body calls, but itself. */
  private static Map<String, Set<String>> callsIn(String code) {
    Map<String, String> bodies = new TreeMap<>();
    Matcher head = Pattern.compile("\\n +(?:[a-z]+ )*(?:[A-Z]\\w*|int|long|boolean|void) (\\w+)\\([^;{}()]*\\) \\{").matcher(code);
    while (head.find()) {
      int end = head.end();
      for (int open = 1; open > 0 && end < code.length(); end++) {
        if (code.charAt(end) == '{') open++;
        if (code.charAt(end) == '}') open--;
      }
      bodies.merge(head.group(1), code.substring(head.end(), end), String::concat);
    }
    Map<String, Set<String>> calls = new TreeMap<>();
    for (String name : bodies.keySet()) {
      Set<String> called = new TreeSet<>();
      Matcher call = Pattern.compile("\\b(\\w+)\\(").matcher(bodies.get(name));
      while (call.find()) if (bodies.containsKey(call.group(1)) && !call.group(1).equals(name)) called.add(call.group(1));
      calls.put(name, called);
    }
    return calls;
  }

  private static String deepest(String name, Map<String, Set<String>> calls, int depth) {
    String longest = "";
    for (String called : calls.get(name)) {
      String further = depth > 20 ? "" : deepest(called, calls, depth + 1);
      if (further.split(" ").length > longest.split(" ").length || longest.isEmpty()) longest = further;
    }
    return longest.isEmpty() ? name : name + " " + longest;
  }

  private static void callsGoEightDeep(String code) {
    Map<String, Set<String>> calls = callsIn(code);
    for (String method : FACE) {
      String name = method.substring(0, method.indexOf('/'));
      must(calls.containsKey(name), name + " was not found in the text");
      String chain = calls.containsKey(name) ? deepest(name, calls, 1) : name;
      must(chain.split(" ").length <= 8, "these calls go too deep: " + chain);
    }
  }

  private static long made() {
    com.sun.management.ThreadMXBean threads =
        (com.sun.management.ThreadMXBean) ManagementFactory.getThreadMXBean();
    return threads.getCurrentThreadAllocatedBytes();
  }

  private static int dearCalls(TypeBars x, int times) {
    int sum = 0;
    for (int i = 0; i < times; i++) {
      sum += x.ticks(24) + x.undo() + x.better(0, 0, 12, 0) + x.pace(0, 0, 12) + x.chance(60, 5, 0) + x.waits(0);
      sum += x.drawn(60, 7 + i, 0) + x.fits(0, 0, 0, 12, i % 4) + x.jam(0) + x.later(60, 0) + x.ask(1, 0);
      sum += x.image(0) + x.restore(0) + x.row(1, 0, 40) + x.drop(1) + x.key(0) + x.back();
    }
    return sum;
  }

  private static TypeBars eight() {
    TypeBars x = new TypeBars();
    for (char c : "p4;h4;s4;d4;b4;p3;h3;s3;".toCharArray()) x.feed(c);
    x.basket();
    x.row(0, 2, 12);
    for (int i = 0; i < 12; i++) x.set(0, i, i % 8);
    return x;
  }

  private static void room() {
    TypeBars x = eight();
    int sum = dearCalls(x, 3);
    long before = made();
    sum += dearCalls(x, 20);
    long calls = made() - before;
    must(calls < 4096, "340 calls make " + calls + " bytes, " + sum);
    before = made();
    TypeBars y = new TypeBars();
    long object = made() - before;
    must(object < 40000 && y.count(1) == 0, "an object takes " + object + " bytes");
  }

  public static void main(String[] args) throws IOException {
    face();
    classesInside();
    text();
    room();
    System.out.println(wrong == 0 ? "the face is as due" : wrong + " things are not as due");
    if (wrong != 0) System.exit(1);
  }
}
