import java.lang.reflect.Method;
import java.util.ArrayList;
import java.util.Arrays;
import java.util.List;
import java.util.Map;
import java.util.Random;
import java.util.TreeMap;

/** Runs of random calls, the same on the program and on the oracle; every answer must be alike. */
public final class OracleTest {
  private static final int RUNS = 1500, CALLS = 512;
  private static final int[] WILD = {-1, -2, 7, 8, 9, 12, 13, 24, 25, 40, 41, 60, 61, 255, 256,
      Integer.MAX_VALUE, Integer.MIN_VALUE, -1000000, 999999, 1000000, 65535, 128};

  private static final Map<String, Method> OURS = methods(TypeBars.class), THEIRS = methods(Oracle.class);
  private static final Map<String, Integer> TIMES = new TreeMap<>();

  private final TypeBars ours = new TypeBars();
  private final Oracle theirs = new Oracle();
  private final Random random;
  private final List<String> told = new ArrayList<>();
  private boolean wrong;

  private OracleTest(long seed) { random = new Random(seed); }

  private static Map<String, Method> methods(Class<?> type) {
    Map<String, Method> all = new TreeMap<>();
    for (Method m : type.getDeclaredMethods()) {
      if (m.getReturnType() == int.class) all.putIfAbsent(m.getName(), m);
      if (m.getReturnType() == int.class && !java.lang.reflect.Modifier.isPrivate(m.getModifiers())) {
        all.put(m.getName(), m);
      }
    }
    return all;
  }

  private int call(String name, int... args) {
    Object[] boxed = Arrays.stream(args).boxed().toArray();
    int got, due;
    try {
      got = (Integer) OURS.get(name).invoke(ours, boxed);
      due = (Integer) THEIRS.get(name).invoke(theirs, boxed);
    } catch (ReflectiveOperationException e) {
      throw new IllegalStateException(name + Arrays.toString(args), e);
    }
    told.add(name + Arrays.toString(args) + " answered " + got);
    TIMES.merge(name + (due <= -1000000 ? " " + (due <= -1000100 ? "fault" : due) : ""), 1, Integer::sum);
    if (got != due) {
      wrong = true;
      System.out.println(String.join("\n", told) + "\n  due is " + due);
    }
    return due;
  }

  private int upTo(int most) { return random.nextInt(most + 1); }

  /** Mostly as told, now and then not. */
  private int some(int least, int most) {
    if (random.nextInt(40) == 0) return WILD[random.nextInt(WILD.length)];
    return least + random.nextInt(most - least + 1);
  }

  private void text(int bars, boolean spoilt) {
    StringBuilder s = new StringBuilder();
    for (int i = 0; i < bars; i++) {
      s.append("phsdb".charAt(upTo(4)));
      if (random.nextInt(12) == 0) s.append('0');
      s.append(1 + upTo(3)).append(';');
    }
    for (int i = upTo(2); spoilt && i >= 0 && s.length() > 0; i--) {
      int at = upTo(s.length() - 1);
      int how = upTo(2);
      char c = "phsdbax0123456789,;; ".charAt(upTo(20));
      if (how == 0) s.setCharAt(at, c);
      else if (how == 1) s.insert(at, c);
      else s.deleteCharAt(at);
    }
    for (int i = 0; i < s.length() && i < 60; i++) call("feed", s.charAt(i));
    call("basket");
    call("fault");
  }

  private void heights(int bar, int n) {
    call("row", 1, upTo(2), 12);
    for (int k = 0; k < n; k++) call("set", 1, k, theirs.height(bar, k + 1));
    if (random.nextInt(4) == 0) call("set", 1, upTo(n - 1), upTo(5));
    for (int what = 0; what < 4; what++) call("fits", bar, 1, 0, n, what);
  }

  private void word() {
    int n = 1 + upTo(random.nextInt(3) == 0 ? 11 : 4);
    call("row", 0, upTo(2), 12);
    for (int k = 0; k < n; k++) call("set", 0, k, some(0, Math.max(0, theirs.count(1) - 1)));
    call("pace", 0, 0, n);
    call("better", 0, 0, n, 0);
    call("better", 0, 0, n, 1);
  }

  private void look() {
    for (int what = 0; what < 9; what++) call("count", what);
    for (int b = 0; b < theirs.count(1); b++) for (int what = 1; what < 5; what++) call("bar", b, what);
    for (int c = 0; c < 20; c += 1 + upTo(2)) call("paper", c);
  }

  private void step() {
    int last = Math.max(0, theirs.count(1) - 1);
    switch (upTo(34)) {
      case 0: call("row", some(0, 7), some(0, 2), some(-1, 40)); break;
      case 1: call("set", some(0, 7), some(0, 12), random.nextInt()); break;
      case 2: call("copy", some(0, 7), some(0, 6), some(0, 7), some(0, 6), some(0, 6)); break;
      case 3: if (random.nextInt(4) == 0) call("drop", some(0, 7)); break;
      case 4: if (random.nextInt(5) == 0) text(upTo(9), random.nextBoolean()); break;
      case 5: case 6: case 7: call("ticks", some(1, 4)); break;
      case 8: case 9: case 10: case 11: case 12: call("key", some(0, last)); break;
      case 13: call("free"); break;
      case 14: if (random.nextInt(3) == 0) call("back"); break;
      case 15: call("swap", some(0, last), some(0, last)); break;
      case 16: call("undo"); break;
      case 17: look(); break;
      case 18: call("height", some(0, last), some(0, 12)); break;
      case 19: call("later", some(0, 60), some(0, 2)); call("later", some(0, 9), some(0, 2)); break;
      case 20: call("jam", some(0, 1)); call("jam", 1); break;
      case 21: call("waits", some(0, last)); break;
      case 22: word(); break;
      case 23: if (theirs.count(1) > 0) heights(upTo(last), 1 + upTo(11)); break;
      case 24: call("fits", some(0, last), some(0, 7), some(0, 4), some(1, 12), some(0, 3)); break;
      case 25: call("chance", some(0, 14), some(0, 10), some(0, 1)); break;
      case 26: call("drawn", some(0, 60), 1 + upTo(999998), some(0, 1)); break;
      case 27: call("drawn", some(0, 60), some(0, 1000000), some(0, 1)); break;
      case 28: call("image", some(0, 1)); break;
      case 29: if (random.nextInt(3) == 0) call("restore", some(0, 1)); break;
      case 30: call("kind", some(0, last)); call("as", some(0, last), some(0, 5)); break;
      case 31:
        call("ask", some(0, last), some(0, 1));
        for (int i = -1; i < 8; i++) call("trace", i);
        break;
      case 32: call("status"); break;
      case 33: call("pace", some(0, 7), some(0, 9), some(1, 12)); break;
      default: call("better", some(0, 7), some(0, 9), some(1, 12), some(0, 1)); break;
    }
    if (random.nextInt(6) == 0) call("status");
  }

  public static void main(String[] args) {
    int wrongRuns = 0;
    int runs = args.length > 0 ? Integer.parseInt(args[0]) : RUNS;
    for (int run = 0; run < runs && wrongRuns < 3; run++) {
      OracleTest test = new OracleTest(20261118L + run);
      if (run % 10 != 0) test.text(1 + test.upTo(7), false);
      while (test.told.size() < CALLS - 80 && !test.wrong) test.step();
      if (test.wrong) {
        wrongRuns++;
        System.out.println("^ run " + run);
      }
    }
    if (args.length > 0) System.out.println(TIMES);
    System.out.println(wrongRuns == 0 ? "all runs are alike" : "runs are not alike");
    if (wrongRuns != 0) System.exit(1);
  }
}
