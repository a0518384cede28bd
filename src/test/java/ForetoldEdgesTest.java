/** What is foretold, and images (promises 17 to 27), edge by edge: each sentence that names a boundary. */
public final class ForetoldEdgesTest extends Checks {
  private static final String EIGHT = "p1;h2;s3;d4;b1;p2;h3;s4;";

  private static TypeBars pressed(String text, int... bars) {
    TypeBars x = with(text);
    press(x, bars);
    return x;
  }

  private static TypeBars word(String text, int... items) {
    TypeBars x = with(text);
    fillRow(x, 0, items);
    return x;
  }

  private static void heights() {
    sentence("17: FORETOLD d TICKS on (0 to 60). BAD");
    edge("bar", b -> pressed(EIGHT, 0, 7).height(b, 1), 0, 1, -1);
    edge("bar", b -> pressed(EIGHT, 0, 7).height(b, 1), 7, 1, 8);
    edge("d", d -> pressed("h4;").height(0, d), 0, 0, -1);
    edge("d", d -> pressed("h4;").height(0, d), 60, 0, 61);
    due("no basket", new TypeBars().height(0, 0), BAD);
    int[] course = {0, 1, 2, 3, 4, 5, 4, 3, 2, 1, 0, 0};
    TypeBars x = pressed("h4;p4;", 0);
    for (int d = 0; d < course.length; d++) due("h4, " + d + " on", x.height(0, d), course[d]);
    due("the other one", x.height(1, 5), 0);
    x.ticks(3);
    for (int d = 0; d < 9; d++) due("h4 at 3, " + d + " on", x.height(0, d), course[d + 3]);
    x = pressed("p4;p4;", 0, 1);
    due("before they hang", x.height(1, 0), 0);
    for (int d : new int[] {1, 2, 59, 60}) due("they hang, " + d + " on", x.height(1, d), 1);
    due("nothing changes", x.count(2) + x.count(5), 0);
  }

  private static void later() {
    sentence("18: d TICKS on: BARS that HANG (what = 0), that MOVE (1), the COLUMN (2). BAD");
    edge("d", d -> pressed("p4;p4;", 0, 1).later(d, 1), 0, 3, -1);
    edge("d", d -> pressed("p4;p4;", 0, 1).later(d, 0), 60, 3, 61);
    edge("what", what -> pressed("p4;p4;", 0, 1).later(1, what), 0, 3, -1);
    edge("what", what -> pressed("p4;p4;", 0).later(60, what), 2, 1, 3);
    sentence("18: STATE: no BASKET (ahead of BAD)");
    for (int d : new int[] {0, 60, -1, 61, MIN, MAX}) {
      for (int what : new int[] {0, 2, -1, 3, MIN, MAX}) due(d + " " + what, new TypeBars().later(d, what), STATE);
    }
    sentence("18: no KEY pressed; all eight");
    TypeBars x = with("p4;p4;p4;p4;p4;p4;p4;p4;");
    for (int what = 0; what < 3; what++) due("at rest", x.later(60, what), 0);
    for (int b = 0; b < 8; b++) x.key(b);
    due("now they move", x.later(0, 1), 255);
    due("now none hangs", x.later(0, 0), 0);
    due("1 on they hang", x.later(1, 0), 255);
    due("1 on none moves", x.later(1, 1), 0);
    sentence("18: the COLUMN, up to THE END");
    x = with("p1;");
    for (int i = 0; i < 19; i++) {
      x.key(0);
      x.ticks(2);
    }
    x.key(0);
    due("19 now", x.later(0, 2), 19);
    due("20 then", x.later(1, 2), 20);
    x.ticks(2);
    x.key(0);
    due("no further", x.later(60, 2), 20);
  }

  private static void jams() {
    sentence("19: JAM: behind how many TICKS (0 to 60) any BAR HANGS first; which (bits); NONE. BAD");
    edge("what", what -> pressed("p1;p4;p1;", 0, 2).jam(what), 0, 1, -1);
    edge("what", what -> pressed("p1;p4;p1;", 0, 2).jam(what), 1, 5, 2);
    String[] sorts = {"p1;", "p2;", "p3;", "p4;", "h4;"};
    for (int k = 0; k < 5; k++) {
      TypeBars x = pressed(sorts[k] + "p1;" + sorts[k], 0, 2);
      for (int passed = 0; passed <= k; passed++) {
        due(sorts[k] + " behind", x.jam(0), k + 1 - passed);
        due(sorts[k] + " which", x.jam(1), 5);
        x.ticks(1);
      }
      due(sorts[k] + " now", x.jam(0), 0);
      due(sorts[k] + " which now", x.jam(1), 5);
      x.ticks(24);
      due(sorts[k] + " now yet", x.jam(0), 0);
      x.free();
      due(sorts[k] + " freed", x.jam(0), NONE);
      due(sorts[k] + " freed, which", x.jam(1), NONE);
    }
    due("one alone", pressed("p4;p4;", 0).jam(0), NONE);
    due("all at rest", with(EIGHT).jam(1), NONE);
    TypeBars x = pressed("p1;p4;p1;p4;p3;", 0, 2, 4);
    due("any BAR first", x.jam(0), 1);
    due("which first", x.jam(1), 5);
    due("another one later", x.later(60, 0), 21);
    sentence("19: STATE: no BASKET (ahead of BAD)");
    for (int what : new int[] {0, 1, -1, 2, MIN, MAX}) due("" + what, new TypeBars().jam(what), STATE);
  }

  private static void waits() {
    sentence("20: WAIT (0 to 20), its KEY pressed then (it is at REST then); NONE. BAD");
    edge("bar", b -> with(EIGHT).waits(b), 0, 0, -1);
    edge("bar", b -> with(EIGHT).waits(b), 7, 0, 8);
    due("no basket", new TypeBars().waits(0), BAD);
    String[] sorts = {"p1;", "p2;", "p3;", "p4;", "h1;", "h2;", "h3;", "h4;", "s1;", "s2;", "s3;", "s4;"};
    int[] rests = {2, 4, 6, 8, 4, 6, 8, 10, 2, 3, 5, 6};
    for (int k = 0; k < sorts.length; k++) {
      TypeBars x = pressed(sorts[k], 0);
      for (int passed = 0; passed <= rests[k]; passed++) {
        due(sorts[k] + " until it rests, behind " + passed, x.waits(0), rests[k] - passed);
        x.ticks(1);
      }
      due(sorts[k] + " at rest", x.waits(0), 0);
    }
    sentence("20: no BAR HANGS that did not HANG ahead of that within 12 TICKS");
    TypeBars x = pressed("p2;p4;p1;p4;", 0);
    due("at its top ahead of the other", x.waits(2), 0);
    x.ticks(1);
    due("both at their tops, so 1", x.waits(2), 1);
    x.ticks(1);
    due("at its top behind the other", x.waits(2), 0);
    x = pressed("h4;p4;h4;", 0);
    due("the tops, behind 5", x.waits(2), 1);
    x = pressed("p4;p4;p4;p1;", 0, 1);
    due("others that begin to hang", x.waits(3), 1);
    x.ticks(1);
    due("others that hang", x.waits(3), 0);
    due("it hangs itself", x.waits(0), NONE);
    due("one beside it, for ever", x.waits(2), NONE);
    x.free();
    due("all freed", x.waits(2), 0);
  }

  private static void words() {
    sentence("21: BAD: ROW, n (1 to 12)");
    int[] forty = new int[40];
    for (int i = 0; i < 40; i++) forty[i] = i % 2;
    edge("n", n -> word("p1;p1;", forty).pace(0, 0, n), 1, 1, 0);
    edge("n", n -> word("p1;p1;", forty).pace(0, 0, n), 12, 1, 13);
    for (int row = 0; row < 8; row += 7) {
      int r = row;
      edge("row", v -> {
        TypeBars x = with("p1;p1;");
        x.row(r, 0, 1);
        return x.pace(v, 0, 1);
      }, r, 1, r == 0 ? -1 : 8);
    }
    sentence("21: STATE: no BASKET; NULL; PLACE, the first of these, behind BAD");
    TypeBars x = new TypeBars();
    x.row(0, 2, 12);
    due("no basket", x.pace(0, 0, 12), STATE);
    due("no basket ahead of NULL", x.pace(1, 0, 1), STATE);
    due("no basket ahead of PLACE", x.pace(0, 12, 1), STATE);
    due("BAD n ahead of no basket", x.pace(0, 0, 0), BAD);
    due("BAD n ahead of no basket, above", x.pace(0, 0, 13), BAD);
    due("BAD row ahead of no basket", x.pace(-1, 0, 1), BAD);
    due("none was told", x.status(), 0);
    x = word("p1;p1;", forty);
    x.row(2, 0, 0);
    due("BAD ahead of NULL", x.pace(1, 0, 13), BAD);
    due("BAD ahead of PLACE", x.pace(0, 40, 0), BAD);
    due("NULL ahead of PLACE", x.pace(1, -1, 1), NULL);
    due("up to the end", x.pace(0, 28, 12), 1);
    due("beyond the end", x.pace(0, 29, 12), PLACE);
    due("it is told", x.status(), 2);
    due("the last item", x.pace(0, 39, 1), 1);
    due("none was found", x.status(), 0);
    due("no item", x.pace(0, 40, 1), PLACE);
    due("a row of none", x.pace(2, 0, 1), PLACE);
    for (int i : new int[] {-1, MIN, MAX, MAX - 11}) due("from " + i, x.pace(0, i, 12), PLACE);
  }

  private static void paces() {
    sentence("21: each BAR being at REST then (numbers of no BARS never are)");
    for (int none : new int[] {-1, 2, 8, 32, 33, 256, MIN, MAX}) {
      TypeBars x = word("p1;p1;", none, 0, 1);
      due(none + " alone", x.pace(0, 0, 1), NONE);
      due(none + " first", x.pace(0, 0, 2), NONE);
      x.set(0, 0, 0);
      x.set(0, 2, none);
      due(none + " last", x.pace(0, 0, 3), NONE);
      due("without it", x.pace(0, 1, 1), 1);
      due(none + " by no exchange", x.better(0, 0, 3, 0), NONE);
    }
    sentence("21: PACE (1 to 12): the least by which it GOES");
    String[] sorts = {"p1;", "d2;", "b3;", "p4;", "h1;", "h2;", "h3;", "h4;", "s1;", "s2;", "s3;", "s4;"};
    int[] rests = {2, 4, 6, 8, 4, 6, 8, 10, 2, 3, 5, 6};
    for (int k = 0; k < sorts.length; k++) {
      TypeBars x = word(sorts[k], new int[12]);
      due(sorts[k] + " once", x.pace(0, 0, 1), 1);
      due(sorts[k] + " twice", x.pace(0, 0, 2), rests[k]);
      due(sorts[k] + " twelve times", x.pace(0, 0, 12), rests[k]);
      x.key(0);
      due(sorts[k] + " pressed: the first now", x.pace(0, 0, 1), NONE);
      x.ticks(rests[k] - 1);
      due(sorts[k] + " one tick ahead of its rest", x.pace(0, 0, 1), NONE);
      x.ticks(1);
      due(sorts[k] + " at rest", x.pace(0, 0, 1), 1);
    }
    due("apart, at once", word("p4;p1;p4;", 0, 2).pace(0, 0, 2), 1);
    due("tops at pace 1", word("p2;p4;p1;", 0, 2).pace(0, 0, 2), 2);
    sentence("21: with 12 TICKS behind the last one, no BAR HANGS that does not HANG now");
    TypeBars x = pressed("p4;p4;p1;p3;", 0, 1);
    fillRow(x, 0, 3);
    due("others begin to", x.pace(0, 0, 1), NONE);
    x.ticks(1);
    due("others hang now", x.pace(0, 0, 1), 1);
    fillRow(x, 0, 2);
    due("beside one that hangs", x.pace(0, 0, 1), NONE);
    fillRow(x, 0, 0);
    due("one that hangs", x.pace(0, 0, 1), NONE);
  }

  private static void exchanges() {
    sentence("22: BAD: ROW, n, what; STATE: no BASKET; NULL; PLACE");
    int[] forty = new int[40];
    edge("n", n -> word("p1;p1;", forty).better(0, 0, n, 0), 1, NONE, 0);
    edge("n", n -> word("p1;p1;", forty).better(0, 0, n, 0), 12, NONE, 13);
    edge("row", r -> word("p1;p1;", forty).better(r, 0, 1, 0), 0, NONE, -1);
    edge("what", what -> lastTwo().better(0, 0, 1, what), 0, 67, -1);
    edge("what", what -> lastTwo().better(0, 0, 1, what), 1, 1, 2);
    TypeBars x = new TypeBars();
    x.row(7, 2, 12);
    due("no basket", x.better(7, 0, 12, 1), STATE);
    due("no basket ahead of NULL", x.better(0, 0, 1, 0), STATE);
    due("no basket ahead of PLACE", x.better(7, 12, 1, 0), STATE);
    for (int[] bad : new int[][] {{8, 1, 0}, {-1, 1, 0}, {7, 0, 0}, {7, 13, 0}, {7, 1, -1}, {7, 1, 2}}) {
      due("BAD ahead of STATE", x.better(bad[0], 0, bad[1], bad[2]), BAD);
    }
    feed(x, "p1;p1;");
    x.basket();
    due("row 7", x.better(7, 0, 12, 0), NONE);
    due("BAD ahead of NULL", x.better(0, 0, 1, 2), BAD);
    due("BAD ahead of PLACE", x.better(7, 12, 1, 2), BAD);
    due("NULL ahead of PLACE", x.better(0, -1, 1, 0), NULL);
    due("up to the end", x.better(7, 0, 12, 0), NONE);
    due("beyond the end", x.better(7, 1, 12, 0), PLACE);
    due("the last", x.better(7, 11, 1, 0), NONE);
    for (int i : new int[] {-1, 12, MIN, MAX, MAX - 11}) due("from " + i, x.better(7, i, 12, 0), PLACE);
    x.row(6, 0, 0);
    due("a row of none", x.better(6, 0, 1, 0), PLACE);
  }

  /** 0 to 5 hang at 1, so 6 meets 5 beside it; only by 7 it comes to where nothing hangs beside it. */
  private static TypeBars lastTwo() {
    TypeBars x = pressed("p2;p2;p2;p2;p2;p2;p1;p1;", 0, 1, 2, 3, 4, 5);
    due("six hang", x.ticks(1), 63);
    fillRow(x, 0, 6);
    return x;
  }

  private static void swaps() {
    sentence("22: SWAP: of all two BARS; 10 the lesser and the other one; that PACE; NONE");
    due("one bar", word("h4;", 0, 0).better(0, 0, 2, 0), NONE);
    due("one bar: pace", word("h4;", 0, 0).better(0, 0, 2, 1), NONE);
    TypeBars x = lastTwo();
    due("none as it is", x.pace(0, 0, 1), NONE);
    due("the last two", x.better(0, 0, 1, 0), 67);
    due("the last two: pace", x.better(0, 0, 1, 1), 1);
    x.swap(6, 7);
    due("exchanged", x.pace(0, 0, 1), 1);
    due("none is less than 1", x.better(0, 0, 1, 0), NONE);
    x = pressed("p1;p1;p2;p2;p2;p2;p2;p2;", 2, 3, 4, 5, 6, 7);
    due("six hang", x.ticks(1), 252);
    fillRow(x, 0, 1);
    due("the first two", x.better(0, 0, 1, 0), 1);
    sentence("22: its PACE is least, less than as it is, of several the first");
    // 0 rests 8 behind its key, so no pace is below 4; by 4 they meet at 2, if they are beside each other.
    x = word("p4;p4;p1;p1;", 0, 1, 0);
    due("as it is", x.pace(0, 0, 3), 5);
    due("of 03, 12, 13 the first", x.better(0, 0, 3, 0), 3);
    due("pace", x.better(0, 0, 3, 1), 4);
    x.swap(0, 3);
    due("as it is then", x.pace(0, 0, 3), 4);
    due("as much is not less", x.better(0, 0, 3, 0), NONE);
    due("as much is not less: pace", x.better(0, 0, 3, 1), NONE);
    x = word("p4;p4;", 0, 1, 0);
    due("two bars are beside each other in any case", x.better(0, 0, 3, 0), NONE);
  }

  private static void fitted() {
    sentence("23: BAD: BAR, ROW, n (1 to 12), what; NULL; PLACE");
    int[] none = new int[40];
    edge("bar", b -> word(EIGHT, none).fits(b, 0, 0, 1, 1), 0, 30, -1);
    edge("bar", b -> word(EIGHT, none).fits(b, 0, 0, 1, 1), 7, 30, 8);
    edge("row", r -> word(EIGHT, none).fits(0, r, 0, 1, 1), 0, 30, -1);
    edge("n", n -> word(EIGHT, none).fits(0, 0, 0, n, 1), 1, 30, 0);
    edge("n", n -> word(EIGHT, none).fits(0, 0, 0, n, 1), 12, 30, 13);
    edge("what", what -> word(EIGHT, none).fits(0, 0, 0, 1, what), 0, 62, -1);
    edge("what", what -> word(EIGHT, none).fits(0, 0, 0, 1, what), 3, 255, 4);
    TypeBars x = new TypeBars();
    x.row(7, 2, 12);
    due("no basket, so no bar", x.fits(0, 7, 0, 1, 0), BAD);
    feed(x, "p1;");
    x.basket();
    due("row 7", x.fits(0, 7, 0, 12, 0), 62);
    due("row 8", x.fits(0, 8, 0, 1, 0), BAD);
    due("BAD ahead of NULL", x.fits(1, 0, 0, 1, 0), BAD);
    due("BAD what ahead of NULL", x.fits(0, 0, 0, 1, 4), BAD);
    due("BAD ahead of PLACE", x.fits(0, 7, -1, 13, 0), BAD);
    due("NULL", x.fits(0, 0, 0, 1, 0), NULL);
    due("NULL ahead of PLACE", x.fits(0, 0, -1, 1, 0), NULL);
    due("up to the end", x.fits(0, 7, 0, 12, 3), 1);
    due("beyond the end", x.fits(0, 7, 1, 12, 3), PLACE);
    due("the last", x.fits(0, 7, 11, 1, 3), 1);
    for (int i : new int[] {-1, 12, MIN, MAX, MAX - 11}) due("from " + i, x.fits(0, 7, i, 12, 3), PLACE);
    x.row(6, 0, 0);
    due("a row of none", x.fits(0, 6, 0, 1, 0), PLACE);
  }

  private static void fitting() {
    sentence("23: SORTS: KINDS (bits 1 to 5); RISES (1 to 4, bits)");
    TypeBars x = word("p4;p4;", 0, 0, 1, 2);
    due("at rest, every sort", x.fits(0, 0, 0, 2, 0), 62);
    due("at rest, every rise", x.fits(0, 0, 0, 2, 1), 30);
    due("at rest, no sort rises", x.fits(0, 0, 1, 2, 0), 0);
    due("at rest, by no rise", x.fits(0, 0, 1, 2, 1), 0);
    x.key(0);
    due("behind 1 tick, not now: 0", x.fits(0, 0, 0, 1, 1), 0);
    due("behind 1 tick: 1", x.fits(0, 0, 2, 1, 1), 30);
    due("behind 2 ticks: 1 2", x.fits(0, 0, 2, 2, 1), 28);
    fillRow(x, 0, 1, 2, 3, 4, 5);
    due("only a heavy one gets to 5", x.fits(0, 0, 0, 5, 0), 4);
    due("by 4 only", x.fits(0, 0, 0, 4, 1), 16);
    sentence("23: TIMES (0 to 9, bits) since its KEY was pressed, MOVING");
    x = word("p1;h4;", 0, 1, 0);
    due("p1 at rest then, pressed 1 to 9 ago", x.fits(0, 0, 0, 1, 2), 1022);
    due("p1 at 1 then, pressed now", x.fits(0, 0, 1, 2, 2), 1);
    due("h4 at rest then, pressed 9 ago", x.fits(1, 0, 0, 1, 2), 512);
    due("h4 at 1, then at rest, pressed 8 ago", x.fits(1, 0, 1, 2, 2), 256);
    due("h4 at 1 then, pressed now or 8 ago", x.fits(1, 0, 1, 1, 2), 257);
    sentence("23: PLACES (bits; as many as there are BARS)");
    for (int bars = 1; bars <= 8; bars++) {
      due(bars + " bars", word("p1;".repeat(bars), 0).fits(bars - 1, 0, 0, 1, 3), (1 << bars) - 1);
    }
    x = pressed("p4;p4;p1;p1;", 0, 1);
    fillRow(x, 0, 1, 2, 3, 4, 3, 2, 1, 0, 0, 0, 0, 0);
    due("0 apart from 1 but for their tops", x.fits(0, 0, 0, 3, 3), 8);
    due("where the other one stands they are beside yet", x.fits(0, 0, 0, 3, 3) & 2, 0);
    due("their tops", x.fits(0, 0, 0, 5, 3), 0);
    fillRow(x, 1, 1, 2, 3, 4, 4, 4);
    due("they hang at their tops", x.fits(0, 1, 0, 6, 3), 8);
    fillRow(x, 2, 1, 1);
    due("they hang at 1 where they are beside each other", x.fits(0, 2, 0, 2, 3), 7);
    sentence("23: no HEIGHT");
    for (int h : new int[] {-1, 6, 256, MIN, MAX}) {
      fillRow(x, 3, h);
      for (int what = 0; what < 4; what++) due(h + " " + what, x.fits(0, 3, 0, 1, what), 0);
    }
    sentence("23: a row of n ITEMS, each counts");
    x = pressed("h4;", 0);
    fillRow(x, 0, 1, 2, 3, 4, 5, 4, 3, 2, 1, 0, 0, 0);
    due("all twelve", x.fits(0, 0, 0, 12, 3), 1);
    for (int i = 0; i < 12; i++) {
      fillRow(x, 1, 1, 2, 3, 4, 5, 4, 3, 2, 1, 0, 0, 0);
      x.set(1, i, 9);
      due("but item " + i, x.fits(0, 1, 0, 12, 3), 0);
      if (i > 0) due("up to item " + i, x.fits(0, 1, 0, i, 3), 1);
    }
  }

  private static void fraction(TypeBars x, int n, int c, int above, int below) {
    due("behind " + n + " by " + c + ", above", x.chance(n, c, 0), above);
    due("behind " + n + " by " + c + ", below", x.chance(n, c, 1), below);
  }

  private static void chances() {
    sentence("24: CHANCE (c 0 to 10), behind n TICKS (0 to 60): above (what = 0), below (1). BAD");
    edge("n", n -> pressed("p1;p1;p1;", 0, 2).chance(n, 0, 0), 0, 1, -1);
    edge("n", n -> pressed("p1;p1;p1;", 0, 2).chance(n, 0, 0), 60, 0, 61);
    edge("c", c -> pressed("p1;p1;p1;", 0, 2).chance(1, c, 0), 0, 0, -1);
    edge("c", c -> pressed("p1;p1;p1;", 0, 2).chance(1, c, 0), 10, 1, 11);
    edge("what", what -> pressed("p1;p1;p1;", 0, 2).chance(1, 1, what), 0, 19, -1);
    edge("what", what -> pressed("p1;p1;p1;", 0, 2).chance(1, 1, what), 1, 100, 2);
    sentence("24: STATE: no BASKET (ahead of BAD)");
    for (int[] a : new int[][] {{0, 0, 0}, {60, 10, 1}, {-1, 0, 0}, {61, 0, 0}, {0, -1, 0}, {0, 11, 0}, {0, 0, 2}}) {
      due(a[0] + " " + a[1] + " " + a[2], new TypeBars().chance(a[0], a[1], a[2]), STATE);
    }
    sentence("24: fractions, told as two numbers in lowest terms (0 is 0 by 1)");
    TypeBars x = pressed("p1;p1;p1;", 0, 2);
    int[] above = {0, 19, 9, 51, 16, 3, 21, 91, 24, 99, 1}, below = {1, 100, 25, 100, 25, 4, 25, 100, 25, 100, 1};
    for (int c = 0; c <= 10; c++) {
      fraction(x, 0, c, 1, 1);
      fraction(x, 1, c, above[c], below[c]);
      fraction(x, 60, c, above[c], below[c]);
    }
    for (int c = 0; c <= 10; c++) fraction(with(EIGHT), 60, c, 1, 1);
    for (int c = 0; c <= 10; c++) fraction(pressed("p1;p1;", 0), 60, c, 1, 1);
    x.ticks(1);
    for (int c = 0; c <= 10; c++) fraction(x, 0, c, 0, 1);
    for (int c = 0; c <= 10; c++) fraction(x, 60, c, 0, 1);
    x = pressed("p4;p4;p4;p4;p4;p4;p4;p4;", 0, 1, 2, 3, 4, 5, 6, 7);
    fraction(x, 1, 0, 0, 1);
    fraction(x, 1, 10, 1, 1);
    // Sets of k of 8 in a row without neighbours: 1 8 21 20 5, each 9 of 10 at rest: 9 to the 8th and so on.
    fraction(x, 1, 9, 43046721 + 8 * 4782969 + 21 * 531441 + 20 * 59049 + 5 * 6561, 100000000);
    // At most one moves at last, as two come to their tops at once: (9 + 8) times 9 to the 7th.
    fraction(x, 4, 9, 17 * 4782969, 100000000);
    fraction(x, 3, 5, 55, 256);
    fraction(x, 4, 5, 9, 256);
  }

  /** A single p1 prints in the tick ahead of which it is pressed, and rests behind the next one. */
  private static int printsOfOne(int n, int seed) {
    long x = seed;
    int printed = 0, free = 0;
    for (int i = 0; i < n; i++) {
      x = x * 16807 % 2147483647;
      if (x % 3 == 0 && i >= free) {
        printed++;
        free = i + 2;
      }
    }
    return printed;
  }

  private static void typing() {
    sentence("25: TYPING of n TICKS (0 to 60) by a SEED (1 to 999999): PRINTED (what = 0), HANG (1). BAD");
    edge("n", n -> with("p1;").drawn(n, 1, 0), 0, 0, -1);
    edge("n", n -> with("p1;").drawn(n, 1, 0), 60, printsOfOne(60, 1), 61);
    edge("seed", seed -> with("p1;").drawn(60, seed, 0), 1, printsOfOne(60, 1), 0);
    edge("seed", seed -> with("p1;").drawn(60, seed, 0), 999999, printsOfOne(60, 999999), 1000000);
    edge("what", what -> with("p1;").drawn(7, 1, what), 0, 1, -1);
    edge("what", what -> with("p1;").drawn(7, 1, what), 1, 0, 2);
    sentence("25: STATE: no BASKET (ahead of BAD)");
    for (int[] a : new int[][] {{0, 1, 0}, {60, 999999, 1}, {-1, 1, 0}, {61, 1, 0}, {0, 0, 0}, {0, 1000000, 0}, {0, 1, 2}}) {
      due(a[0] + " " + a[1] + " " + a[2], new TypeBars().drawn(a[0], a[1], a[2]), STATE);
    }
    sentence("25: X becomes the rest of (X times 16807) by 2147483647");
    for (int n = 0; n <= 60; n++) {
      due(n + " by 1", with("p1;").drawn(n, 1, 0), printsOfOne(n, 1));
      due(n + " by 999999", with("p1;").drawn(n, 999999, 0), printsOfOne(n, 999999));
      due(n + " by 127773", with("b1;").drawn(n, 127773, 0), printsOfOne(n, 127773));
      due(n + " by 127774", with("d1;").drawn(n, 127774, 0), printsOfOne(n, 127774));
    }
    sentence("25: how many BARS PRINTED (in THE END, too)");
    TypeBars x = with("p1;");
    for (int i = 0; i < 20; i++) {
      x.key(0);
      x.ticks(2);
    }
    due("the end", x.count(3), 20);
    due("60 there", x.drawn(60, 1, 0), printsOfOne(60, 1));
    sentence("25: nothing at all");
    x = pressed("p4;p4;p4;", 0, 1, 2);
    due("none hangs yet", x.drawn(0, 1, 1), 0);
    due("all hang", x.drawn(1, 1, 1), 3);
    x.ticks(1);
    due("all hang now", x.drawn(0, 1, 1), 3);
    due("nothing printed", x.drawn(0, 1, 0), 0);
    due("nothing changes", x.count(5), 7);
    sentence("25: all that HANG are freed, if X by 11 leaves 0");
    due("11, of which X is 184877", x.drawn(1, 11, 1), 0);
    due("10, of which X is 168070", x.drawn(1, 10, 1), 3);
  }

  private static void images() {
    sentence("26: An IMAGE (0, 1) is kept of the BASKET: 1. BAD; STATE: no BASKET");
    edge("k", k -> with("p1;").image(k), 0, 1, -1);
    edge("k", k -> with("p1;").image(k), 1, 1, 2);
    edge("k, no basket", k -> new TypeBars().image(k), 0, STATE, -1);
    edge("k, no basket", k -> new TypeBars().image(k), 1, STATE, 2);
    sentence("27: The BASKET is as an IMAGE kept it: 1. BAD; STATE: none was kept");
    edge("k, none kept", k -> with("p1;").restore(k), 0, STATE, -1);
    edge("k, none kept", k -> with("p1;").restore(k), 1, STATE, 2);
    edge("k, no basket", k -> new TypeBars().restore(k), 1, STATE, 2);
    edge("k", k -> bothKept().restore(k), 0, 1, -1);
    edge("k", k -> bothKept().restore(k), 1, 1, 2);
    TypeBars x = with("p1;");
    x.image(1);
    due("only the other one is kept", x.restore(0), STATE);
    x = bothKept();
    x.restore(0);
    due("the first", x.count(1) * 10 + x.count(4), 11);
    x.restore(1);
    due("the second", x.count(1) * 10 + x.count(4), 20);
    x.image(0);
    x.restore(0);
    due("in place of the first", x.count(1), 2);
    sentence("27: no ACT can be undone then");
    x = bothKept();
    x.ticks(24);
    due("24 acts", x.count(7), 24);
    x.restore(0);
    due("none", x.count(7), 0);
    due("undo", x.undo(), STATE);
    x.ticks(1);
    due("a new one", x.undo(), 0);
    due("no more", x.undo(), STATE);
    sentence("26: all full");
    x = new TypeBars();
    feed(x, "p1;".repeat(8));
    x.basket();
    for (int i = 0; i < 20; i++) {
      x.key(i % 8);
      x.ticks(2);
    }
    for (int b = 0; b < 8; b++) x.key(b);
    x.ticks(1);
    x.image(0);
    for (int i = 0; i < 60; i++) x.feed('p');
    x.free();
    x.back();
    due("restored", x.restore(0), 1);
    due("hang", x.count(5), 255);
    due("column", x.count(3), 20);
    for (int c = 0; c < 20; c++) due("paper " + c, x.paper(c), c % 8);
    due("tick", x.count(2), 41);
    due("the tape is no part of it", x.count(8), 60);
  }

  private static TypeBars bothKept() {
    TypeBars x = pressed("p3;", 0);
    x.image(0);
    feed(x, "p1;p1;");
    x.basket();
    x.image(1);
    return x;
  }

  public static void main(String[] args) {
    heights();
    later();
    jams();
    waits();
    words();
    paces();
    exchanges();
    swaps();
    fitted();
    fitting();
    chances();
    typing();
    images();
    end();
  }
}
