import java.io.IOException;
import java.lang.reflect.Method;
import java.lang.reflect.Modifier;
import java.nio.file.Files;
import java.nio.file.Path;
import java.util.HashMap;
import java.util.Map;
import java.util.TreeSet;
import java.util.regex.Matcher;
import java.util.regex.Pattern;
import java.util.stream.Stream;

/** What README.md shows is so: its lines are one run, and nothing of the face or of the tests is left out. */
public final class ReadmeTest extends Checks {
  private static final Pattern CALL = Pattern.compile("x\\.(\\w+)\\(([^)]*)\\); +// (-?\\d+)(: .*)?");
  private static final Pattern FEEDING = Pattern.compile("for \\(char c : \"([^\"]*)\"\\.toCharArray\\(\\)\\) x\\.feed\\(c\\);");
  private static final String MADE = "TypeBars x = new TypeBars();";

  private static Map<String, Method> face() {
    Map<String, Method> face = new HashMap<>();
    for (Method m : TypeBars.class.getDeclaredMethods()) {
      if (Modifier.isPublic(m.getModifiers())) face.put(m.getName(), m);
    }
    return face;
  }

  private static Object[] numbers(String told) {
    if (told.isEmpty()) return new Object[0];
    return Stream.of(told.split(", ")).map(Integer::valueOf).toArray();
  }

  private static void run(String code) throws ReflectiveOperationException {
    Map<String, Method> face = face();
    TreeSet<String> unused = new TreeSet<>(face.keySet());
    TypeBars x = new TypeBars();
    for (String line : code.split("\n")) {
      Matcher call = CALL.matcher(line), feeding = FEEDING.matcher(line);
      if (call.matches() && face.containsKey(call.group(1))) {
        unused.remove(call.group(1));
        Object got = face.get(call.group(1)).invoke(x, numbers(call.group(2)));
        due(line, (Integer) got, Integer.parseInt(call.group(3)));
      } else if (feeding.matches()) {
        unused.remove("feed");
        feed(x, feeding.group(1));
      } else if (!line.isEmpty() && !line.equals(MADE)) {
        fails("this line is no call: " + line);
      }
    }
    if (!unused.isEmpty()) fails("calls that are not shown: " + unused);
  }

  private static String codeOf(String page) {
    StringBuilder code = new StringBuilder();
    Matcher block = Pattern.compile("(?s)```java\n(.*?)```").matcher(page);
    while (block.find()) code.append(block.group(1));
    return code.toString();
  }

  private static void testsAreNamed(String page) throws IOException {
    try (Stream<Path> files = Files.list(Path.of("src/test/java"))) {
      files.map(f -> f.getFileName().toString().replace(".java", "")).filter(name -> !page.contains(name))
          .forEach(name -> fails(name + " is not named"));
    }
  }

  public static void main(String[] args) throws IOException, ReflectiveOperationException {
    String page = Files.readString(Path.of("README.md"));
    sentence("README.md");
    run(codeOf(page));
    testsAreNamed(page);
    end();
  }
}
