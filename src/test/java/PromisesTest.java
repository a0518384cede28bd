/** Each promise by answers worked out by hand from the document: ordinary inputs, its edges, wrong inputs. */
public final class PromisesTest extends Checks {
  private static void faultOf(String text, int number, int place) {
    TypeBars x = with("p2;s3;");
    x.key(1);
    feed(x, text);
    due("7: the place of the fault in '" + text + "'", x.basket(), -1000100 - place);
    due("8: the number of the fault in '" + text + "'", x.fault(), number);
    due("7: the tape is empty behind '" + text + "'", x.count(8), 0);
    due("7: all stays behind '" + text + "'", x.count(1) * 100 + x.count(4) * 10 + x.count(7), 221);
  }

  /** A bar rises and falls: HEIGHTS behind each tick. */
  private static void course(String text, int... heights) {
    TypeBars x = with(text);
    x.key(0);
    for (int t = 0; t < heights.length; t++) {
      due("17: height " + t + " ticks on of " + text, x.height(0, t), heights[t]);
    }
    for (int t = 0; t < heights.length; t++) {
      due("15: height behind " + t + " ticks of " + text, x.bar(0, 2), heights[t]);
      due("15: time behind " + t + " ticks of " + text, x.bar(0, 3), heights[t] > 0 || t == 0 ? t : NONE);
      x.ticks(1);
    }
  }

  private static void newObject() {
    TypeBars x = new TypeBars();
    for (int what = 0; what <= 8; what++) due("1: count " + what, x.count(what), 0);
    due("1: fault", x.fault(), 0);
    due("1: status", x.status(), 0);
    due("1: paper", x.paper(0), NONE);
    due("1: trace", x.trace(0), NONE);
    due("1: no basket", x.later(0, 0), STATE);
    due("1: undo", x.undo(), STATE);
    due("NONE", NONE, -1000000);
    due("BAD", BAD, -1000001);
    due("STATE", STATE, -1000002);
    due("FULL", FULL, -1000003);
  }

  private static void rowMade() {
    TypeBars x = new TypeBars();
    due("2: row 7 of 40 ints", x.row(7, 2, 40), 40);
    due("2: row 0 of no bytes", x.row(0, 0, 0), 0);
    due("2: they are there", x.count(0), 2);
    due("2: row -1", x.row(-1, 0, 1), BAD);
    due("2: row 8", x.row(8, 0, 1), BAD);
    due("2: lane -1", x.row(0, -1, 1), BAD);
    due("2: lane 3", x.row(0, 3, 1), BAD);
    due("2: n 41", x.row(0, 0, 41), BAD);
    due("2: n of the most", x.row(0, 0, MAX), BAD);
    due("2: n -1", x.row(0, 0, -1), SIZE);
    due("2: n of the least", x.row(0, 0, MIN), SIZE);
    due("2: BAD ahead of SIZE", x.row(8, 0, -1), BAD);
    due("2: BAD lane ahead of SIZE", x.row(0, 3, -1), BAD);
    due("2: set", x.set(7, 39, 77), 77);
    due("2: a found row stays", x.row(7, 2, -5), SIZE);
    due("2: it has its items", x.drop(7), 40);
    due("2: again", x.row(7, 2, 3), 3);
    x.set(7, 0, 5);
    due("2: in place of what is there", x.row(7, 2, 2), 2);
    due("2: place 2 is none now", x.set(7, 2, 1), PLACE);
    TypeBars y = with("p1;");
    fillRow(y, 0, 0, 0, 0);
    y.set(0, 1, 9);
    y.row(0, 2, 3);
    due("2: items are 0 at first", y.fits(0, 0, 0, 3, 3), 1);
  }

  private static void setItem() {
    TypeBars x = new TypeBars();
    x.row(0, 0, 2);
    x.row(1, 1, 2);
    x.row(2, 2, 2);
    due("3: byte 127", x.set(0, 0, 127), 127);
    due("3: byte 128", x.set(0, 0, 128), -128);
    due("3: byte 256", x.set(0, 0, 256), 0);
    due("3: byte -129", x.set(0, 1, -129), 127);
    due("3: short 32767", x.set(1, 1, 32767), 32767);
    due("3: short 32768", x.set(1, 1, 32768), -32768);
    due("3: short of the most", x.set(1, 1, MAX), -1);
    due("3: int of the least", x.set(2, 1, MIN), MIN);
    due("3: place 2", x.set(0, 2, 1), PLACE);
    due("3: place -1", x.set(0, -1, 1), PLACE);
    due("3: place of the most", x.set(0, MAX, 1), PLACE);
    due("3: missing", x.set(3, 0, 1), NULL);
    due("3: missing ahead of place", x.set(3, -1, 1), NULL);
    due("3: row 8", x.set(8, 0, 1), BAD);
    due("3: row -1", x.set(-1, 0, 1), BAD);
    x.row(4, 0, 0);
    due("3: a row of none", x.set(4, 0, 1), PLACE);
  }

  private static void copyItems() {
    TypeBars x = with("h4;");
    fillRow(x, 0, 1, 2, 3, 4, 5, 4, 3, 2, 1);
    x.key(0);
    due("4: ahead", x.fits(0, 0, 0, 9, 3), 1);
    due("4: within a row, upwards", x.copy(0, 0, 0, 1, 8), 8);
    // 1 1 2 3 4 5 4 3 2
    due("4: as they were ahead", x.fits(0, 0, 1, 8, 3), 1);
    due("4: downwards", x.copy(0, 1, 0, 0, 8), 8);
    due("4: as they were again", x.fits(0, 0, 0, 8, 3), 1);
    x.row(1, 2, 5);
    due("4: to another row", x.copy(0, 0, 1, 1, 4), 4);
    due("4: they came", x.fits(0, 1, 1, 4, 3), 1);
    due("4: none at the ends", x.copy(0, 9, 1, 5, 0), 0);
    due("4: i beyond", x.copy(0, 6, 1, 0, 4), PLACE);
    due("4: j beyond", x.copy(0, 0, 1, 2, 4), PLACE);
    due("4: i below", x.copy(0, -1, 1, 0, 1), PLACE);
    due("4: j below", x.copy(0, 0, 1, -1, 1), PLACE);
    due("4: n below", x.copy(0, 1, 1, 1, -1), PLACE);
    due("4: i and n of the most", x.copy(0, MAX, 1, 0, MAX), PLACE);
    due("4: n of the least", x.copy(0, 0, 1, 0, MIN), PLACE);
    x.row(2, 1, 5);
    due("4: two lanes", x.copy(0, 0, 2, 0, 1), STORE);
    due("4: two lanes ahead of a place", x.copy(0, -1, 2, 0, 1), STORE);
    due("4: the first missing", x.copy(3, 0, 2, 0, 1), NULL);
    due("4: the second missing", x.copy(2, 9, 3, 0, 1), NULL);
    due("4: no row", x.copy(8, 0, 3, 0, 1), BAD);
    due("4: no row, the second", x.copy(3, 0, -1, 0, 1), BAD);
  }

  private static void dropRow() {
    TypeBars x = new TypeBars();
    x.row(3, 1, 12);
    due("5: drop", x.drop(3), 12);
    due("5: none is there", x.count(0), 0);
    due("5: again", x.drop(3), NULL);
    due("5: set", x.set(3, 0, 0), NULL);
    due("5: row 8", x.drop(8), BAD);
    due("5: row -1", x.drop(-1), BAD);
    x.row(3, 1, 0);
    due("5: of none", x.drop(3), 0);
  }

  private static void feedTape() {
    TypeBars x = new TypeBars();
    due("6: -1", x.feed(-1), BAD);
    due("6: 256", x.feed(256), BAD);
    due("6: 0", x.feed(0), 1);
    due("6: 255", x.feed(255), 2);
    for (int i = 3; i <= 60; i++) due("6: byte " + i, x.feed('p'), i);
    due("6: a byte more", x.feed('p'), FULL);
    due("6: BAD ahead of FULL", x.feed(256), BAD);
    due("6: count", x.count(8), 60);
    due("6: byte 0 is no letter", x.basket(), -1000100);
    due("6: it is empty then", x.feed('p'), 1);
  }

  private static void readTape() {
    due("7: eight bars", with("p1;h2;s3;d4;b1;p2;h3;s4;").count(1), 8);
    TypeBars x = new TypeBars();
    feed(x, "p04;");
    due("7: two figures", x.basket(), 1);
    due("7: rise", x.bar(0, 0), 4);
    due("8: no fault", x.fault(), 0);
    faultOf("", 1, 0);
    faultOf("p", 1, 1);
    faultOf("p1", 1, 2);
    faultOf("p1;h", 1, 4);
    faultOf("p1;h2", 1, 5);
    faultOf("p1;x", 1, 3);
    faultOf("x1;", 1, 0);
    faultOf("P1;", 1, 0);
    faultOf("pp;", 1, 1);
    faultOf("p1,", 1, 2);
    faultOf("p,1;", 1, 1);
    faultOf("p1;;", 1, 3);
    faultOf("p1;2;", 1, 3);
    faultOf(" p1;", 1, 0);
    faultOf("p 1;", 1, 1);
    faultOf("p0;", 2, 1);
    faultOf("p5;", 2, 1);
    faultOf("p00;", 2, 1);
    faultOf("p99;x", 2, 1);
    faultOf("p001;", 1, 1);
    faultOf("p1234;", 1, 1);
    faultOf("p1;123", 1, 3);
    faultOf("p1;p1;p1;p1;p1;p1;p1;p1;p", 3, 24);
    faultOf("p1;p1;p1;p1;p1;p1;p1;p1;b9", 3, 24);
    faultOf("p1;p1;p1;p1;p1;p1;p1;p1;x", 1, 24);
    faultOf("p1;p1;p1;p1;p1;p1;p1;p1;1", 1, 24);
    faultOf("p1;p1;p1;p1;p1;p1;p1;p5;p", 2, 22);
    TypeBars y = with("p1;");
    y.swap(0, 0);
    y.key(0);
    y.ticks(1);
    feed(y, "s2;d3;");
    due("7: in place of the one before", y.basket(), 2);
    due("7: none moves", y.count(4), 0);
    due("7: column 0", y.count(3), 0);
    due("7: the paper is empty", y.paper(0) + y.count(6), NONE);
    due("7: no act can be undone", y.undo(), STATE);
    due("7: tick 0", y.count(2), 0);
    feed(y, "q");
    y.basket();
    feed(y, "p1;");
    y.basket();
    due("8: the latest fault stays told", y.fault(), 1);
    TypeBars z = with("p1;p2;");
    z.swap(0, 1);
    feed(z, "p1;p2;");
    z.basket();
    due("7: place of each is its number", z.bar(0, 1), 0);
  }

  private static void tickedBars() {
    course("p1;", 0, 1, 0, 0);
    course("p4;", 0, 1, 2, 3, 4, 3, 2, 1, 0, 0);
    course("h1;", 0, 1, 2, 1, 0);
    course("h4;", 0, 1, 2, 3, 4, 5, 4, 3, 2, 1, 0);
    course("s4;", 0, 1, 2, 3, 4, 2, 0);
    course("s3;", 0, 1, 2, 3, 1, 0);
    course("d2;", 0, 1, 2, 1, 0);
    course("b3;", 0, 1, 2, 3, 2, 1, 0);
    TypeBars x = new TypeBars();
    due("9: no basket", x.ticks(1), STATE);
    due("9: no basket ahead of BAD", x.ticks(0), STATE);
    x = with("p1;p2;");
    due("9: 0", x.ticks(0), BAD);
    due("9: -1", x.ticks(-1), BAD);
    due("9: 25", x.ticks(25), BAD);
    due("9: of the most", x.ticks(MAX), BAD);
    due("9: 24", x.ticks(24), 0);
    due("9: tick", x.count(2), 24);
    due("9: an act each", x.count(7), 24);
  }

  private static void tickEnds() {
    TypeBars x = with("p1;");
    for (int i = 0; i < 416; i++) x.ticks(24);
    due("9: tick 9984", x.count(2), 9984);
    due("9: beyond 9999", x.ticks(16), FULL);
    due("9: BAD ahead of FULL", x.ticks(25), BAD);
    due("9: to 9999", x.ticks(15), 0);
    due("9: beyond by one", x.ticks(1), FULL);
    due("9: nothing changed", x.count(2), 9999);
    due("9: undone", x.undo(), 23);
    due("9: tick 9998", x.count(2), 9998);
    x.key(0);
    due("17: foretold beyond it all the same", x.height(0, 1), 1);
    due("18: printed beyond it all the same", x.later(3, 2), 1);
    due("9: one more", x.ticks(1), 0);
  }

  private static void meeting() {
    TypeBars x = with("p2;p4;");
    x.key(0);
    x.key(1);
    due("9: beside each other, alike", x.ticks(1), 3);
    due("9: they hang at 1", x.bar(0, 2) * 10 + x.bar(1, 2), 11);
    due("9: they stay so", x.ticks(9), 3);
    due("9: at 1 yet", x.bar(1, 2), 1);
    due("15: no time", x.bar(0, 3), NONE);
    due("15: it hangs", x.bar(0, 4), 1);
    x = with("p2;p3;p4;");
    x.key(0);
    x.key(2);
    due("9: two places apart, alike, not at the top", x.ticks(1), 0);
    due("9: one at its top only", x.ticks(1), 0);
    x = with("p2;p3;p2;");
    x.key(0);
    x.key(2);
    due("9: both at the top, apart", x.ticks(2), 5);
    due("9: what hangs prints not", x.count(3), 0);
    x = with("h1;p4;p2;");
    x.key(0);
    x.key(2);
    due("9: heavy at its top, too", x.ticks(2), 5);
    x = with("p2;p4;p1;");
    x.key(0);
    x.ticks(1);
    x.key(2);
    due("9: tops of two heights", x.ticks(1), 5);
    due("9: each hangs at its own", x.bar(0, 2) * 10 + x.bar(2, 2), 21);
    x.key(1);
    due("9: one that moves meets one that hangs beside it", x.ticks(1), 7);
    x = with("p1;p2;p3;p1;");
    x.key(0);
    x.key(3);
    due("9: two at 1", x.ticks(1), 9);
    x.key(1);
    due("9: the third meets the first", x.ticks(1), 11);
    x = with("p3;p4;p2;");
    x.key(0);
    x.ticks(2);
    x.key(1);
    due("9: beside, 3 and 1", x.ticks(1), 0);
    due("9: beside, rising and falling, both at 2", x.ticks(1), 3);
    x.free();
    x = with("p1;p1;p1;");
    x.key(0);
    x.key(1);
    x.key(2);
    due("9: three at once", x.ticks(1), 7);
    x = with("p2;p4;p3;p2;");
    x.key(0);
    x.key(3);
    x.ticks(2);
    x.key(2);
    due("9: 1 beside 2", x.ticks(1), 9);
    due("9: 2 beside 2, hanging", x.ticks(1), 13);
    x = with("p3;p2;p4;p2;p1;");
    x.key(1);
    x.key(3);
    due("9: two at their tops", x.ticks(2), 10);
    due("15: these hang", x.bar(1, 4) * 10 + x.bar(3, 4), 11);
    due("15: these do not", x.bar(0, 4) + x.bar(2, 4), 0);
    x.key(0);
    due("9: 1 beside 2", x.ticks(1), 10);
    due("9: the first, 2 beside one that hangs at 2", x.ticks(1), 11);
    x = with("p1;p4;p2;p4;p2;");
    x.key(2);
    x.key(4);
    x.ticks(2);
    x.key(0);
    due("9: the first, at its top as others hang there", x.ticks(1), 21);
    x = with("p4;p4;s4;");
    x.key(0);
    x.key(1);
    x.swap(1, 2);
    due("9: apart by an exchange", x.ticks(1), 0);
    x.swap(1, 2);
    due("9: beside again", x.ticks(1), 3);
    x = with("p1;p4;p1;");
    x.key(0);
    x.key(2);
    x.ticks(1);
    x.swap(1, 2);
    due("9: two that hang meet no more", x.ticks(1), 5);
  }

  private static void printing() {
    TypeBars x = with("p1;d1;b1;p1;");
    x.key(1);
    x.ticks(2);
    due("9: a dead one prints", x.paper(0), 1);
    due("9: the carriage stays", x.count(3), 0);
    x.key(3);
    x.ticks(2);
    due("9: in place of what is there", x.paper(0), 3);
    due("9: the carriage is further", x.count(3), 1);
    x.key(2);
    x.ticks(1);
    due("9: a blank prints nothing", x.paper(1), NONE);
    due("9: but the carriage is further", x.count(3), 2);
    x.ticks(1);
    x.key(1);
    x.ticks(2);
    x.key(2);
    x.ticks(2);
    due("9: a blank leaves what is there", x.paper(2), 1);
    due("32: columns with anything", x.count(6), 2);
    x = with("s4;");
    x.key(0);
    x.ticks(3);
    due("9: not below the top", x.count(3), 0);
    x.ticks(1);
    due("9: at the top", x.count(3), 1);
    x.ticks(5);
    due("9: once", x.count(3), 1);
    x = with("p1;d1;b1;");
    for (int i = 0; i < 19; i++) {
      x.key(0);
      x.ticks(2);
    }
    x.key(1);
    x.ticks(2);
    due("9: a dead one in the last column", x.paper(19), 1);
    x.key(2);
    x.ticks(2);
    due("9: the end", x.count(3), 20);
    for (int b = 0; b < 3; b++) {
      x.key(b);
      x.ticks(2);
      due("9: the carriage stays there", x.count(3), 20);
    }
    due("9: nothing is printed there", x.paper(19) * 100 + x.count(6), 120);
  }

  private static void keys() {
    TypeBars x = new TypeBars();
    due("10: no basket", x.key(0), BAD);
    x = with("p2;p2;p3;");
    due("10: key 2", x.key(2), 4);
    due("10: key 0", x.key(0), 5);
    due("10: not at rest", x.key(2), STATE);
    due("10: no bar", x.key(3), BAD);
    due("10: no bar below", x.key(-1), BAD);
    due("10: bar 32", x.key(32), BAD);
    due("10: time 0", x.bar(0, 3), 0);
    x.key(1);
    due("10: all hang", x.ticks(1), 7);
    due("10: what hangs is not at rest", x.key(0), STATE);
    due("10: acts", x.count(7), 4);
    x.free();
    due("10: freed", x.key(0), 1);
    x.ticks(4);
    due("10: fallen back", x.key(0), 1);
  }

  private static void freeing() {
    TypeBars x = new TypeBars();
    due("11: no basket", x.free(), STATE);
    x = with("p2;p2;p3;");
    due("11: none hangs", x.free(), STATE);
    x.key(0);
    x.key(1);
    x.ticks(1);
    x.key(2);
    due("11: two", x.free(), 2);
    due("11: at rest", x.bar(0, 2) + x.bar(1, 2) + x.count(5), 0);
    due("11: what moves goes on moving", x.count(4), 4);
    due("11: none then", x.free(), STATE);
    due("11: an act", x.undo(), 4);
    due("11: undone", x.count(5), 3);
    due("11: at 1 again", x.bar(1, 2), 1);
  }

  private static void bringing() {
    TypeBars x = new TypeBars();
    due("12: no basket", x.back(), STATE);
    x = with("p1;");
    due("12: at 0", x.back(), 0);
    due("12: an act all the same", x.count(7), 1);
    x.key(0);
    x.ticks(1);
    due("12: at 1", x.back(), 1);
    due("12: column", x.count(3), 0);
    due("12: paper", x.paper(0), NONE);
    due("12: bars stay", x.bar(0, 2), 1);
    x.undo();
    due("12: undone", x.paper(0) * 10 + x.count(3), 1);
  }

  private static void swapping() {
    TypeBars x = new TypeBars();
    due("13: no basket", x.swap(0, 1), BAD);
    x = with("p1;p2;p3;");
    due("13: alike", x.swap(1, 1), BAD);
    due("13: no bar", x.swap(0, 3), BAD);
    due("13: no first bar", x.swap(-1, 0), BAD);
    due("13: 0 and 2", x.swap(0, 2), 2);
    due("13: the other", x.bar(2, 1), 0);
    due("13: bars stay what they are", x.bar(0, 0), 1);
    due("13: 0 and 1", x.swap(1, 0), 2);
    due("13: places", x.bar(0, 1) * 100 + x.bar(1, 1) * 10 + x.bar(2, 1), 120);
    due("13: an act", x.undo(), 1);
    due("13: undone", x.bar(0, 1) * 100 + x.bar(1, 1) * 10 + x.bar(2, 1), 210);
  }

  private static void undoing() {
    TypeBars x = new TypeBars();
    due("14: no basket", x.undo(), STATE);
    x = with("p2;d1;");
    due("14: none", x.undo(), STATE);
    x.key(0);
    x.ticks(3);
    due("14: acts", x.count(7), 4);
    due("14: a tick", x.undo(), 3);
    due("14: tick 2", x.count(2), 2);
    due("14: height 2", x.bar(0, 2), 2);
    due("14: printed", x.paper(0), 0);
    due("14: the print", x.undo(), 2);
    due("14: not printed", x.paper(0) + x.count(3), NONE);
    due("14: time 1", x.bar(0, 3), 1);
    x.undo();
    due("14: the key", x.undo(), 0);
    due("14: at rest", x.bar(0, 3), NONE);
    due("14: none more", x.undo(), STATE);
    x.key(0);
    x.ticks(24);
    due("14: the oldest is forgotten", x.count(7), 24);
    for (int left = 23; left >= 0; left--) due("14: left", x.undo(), left);
    due("14: the key cannot be", x.undo(), STATE);
    due("14: it moves yet", x.bar(0, 3), 0);
    x.key(1);
    due("14: refused acts are none", x.key(1) + x.count(7), STATE + 1);
  }

  private static void telling() {
    TypeBars x = new TypeBars();
    due("15: no basket", x.bar(0, 0), BAD);
    x = with("h3;s2;");
    int[] first = {3, 0, 0, NONE, 0, 4};
    for (int what = 0; what < 6; what++) due("15: of bar 0: " + what, x.bar(0, what), first[what]);
    due("15: top of a sprung one", x.bar(1, 5), 2);
    due("15: what 6", x.bar(0, 6), BAD);
    due("15: what -1", x.bar(0, -1), BAD);
    due("15: bar 2", x.bar(2, 0), BAD);
    due("15: bar -1", x.bar(-1, 0), BAD);
    due("16: column 20", x.paper(20), BAD);
    due("16: column -1", x.paper(-1), BAD);
    due("16: column 19", x.paper(19), NONE);
    x.key(1);
    x.ticks(2);
    due("16: a number", x.paper(0), 1);
  }

  private static void foretelling() {
    TypeBars x = new TypeBars();
    due("17: no basket", x.height(0, 0), BAD);
    due("18: no basket", x.later(0, 0), STATE);
    due("18: no basket ahead of BAD", x.later(-1, 9), STATE);
    due("19: no basket", x.jam(0), STATE);
    due("19: no basket ahead of BAD", x.jam(9), STATE);
    x = with("p3;p4;s2;");
    due("17: bar 3", x.height(3, 0), BAD);
    due("17: 61 on", x.height(0, 61), BAD);
    due("17: -1 on", x.height(0, -1), BAD);
    due("18: 61 on", x.later(61, 0), BAD);
    due("18: -1 on", x.later(-1, 0), BAD);
    due("18: what 3", x.later(0, 3), BAD);
    due("18: what -1", x.later(0, -1), BAD);
    due("19: what 2", x.jam(2), BAD);
    due("19: what -1", x.jam(-1), BAD);
    due("19: nothing jams", x.jam(0), NONE);
    due("19: nothing jams: which", x.jam(1), NONE);
    x.key(0);
    x.ticks(2);
    x.key(1);
    // 0 is at 2, then 3 (prints), 2; 1 is at 0, then 1, 2: they meet behind 2 ticks.
    due("17: 1 on", x.height(0, 1), 3);
    due("17: 60 on", x.height(0, 60), 2);
    due("17: now", x.height(0, 0), 2);
    due("18: hang 1 on", x.later(1, 0), 0);
    due("18: move 1 on", x.later(1, 1), 3);
    due("18: column 0 on", x.later(0, 2), 0);
    due("18: column 1 on", x.later(1, 2), 1);
    due("18: hang 2 on", x.later(2, 0), 3);
    due("18: move 2 on", x.later(60, 1), 0);
    due("18: hang 60 on", x.later(60, 0), 3);
    due("19: behind", x.jam(0), 2);
    due("19: which", x.jam(1), 3);
    due("19: nothing changes", x.count(2) * 100 + x.count(7) * 10 + x.count(4), 243);
    x.ticks(2);
    due("19: now", x.jam(0), 0);
    due("19: now: which", x.jam(1), 3);
    x.key(2);
    due("19: what hangs already is first", x.jam(1), 3);
  }

  private static void waiting() {
    TypeBars x = new TypeBars();
    due("20: no basket", x.waits(0), BAD);
    x = with("p3;p3;p1;p4;");
    due("20: bar 4", x.waits(4), BAD);
    due("20: bar -1", x.waits(-1), BAD);
    due("20: none moves", x.waits(0), 0);
    x.key(0);
    // Its own bar rests behind 6 ticks.
    due("20: its own", x.waits(0), 6);
    // Bar 1 pressed w behind: heights t and t - w are alike if t is falling at 6 - t: w even below 6, t = (6 + w) / 2.
    due("20: the bar beside it", x.waits(1), 1);
    // Bar 2 is at its top 1 behind its key: with bar 0 at its top at 3, w = 2 is not so.
    due("20: a bar apart", x.waits(2), 0);
    x.ticks(2);
    due("20: a bar apart at the top at once", x.waits(2), 1);
    due("20: beside", x.waits(1), 1);
    x = with("p2;p2;p1;p1;");
    x.key(0);
    x.key(1);
    due("20: what jams without it counts, too", x.waits(3), 1);
    x.ticks(1);
    due("20: what hangs counts not", x.waits(3), 0);
    due("20: what hangs is never at rest", x.waits(0), NONE);
    due("20: beside what hangs at 1", x.waits(2), NONE);
    x = with("h4;h4;");
    x.key(0);
    due("20: nothing changes", x.waits(0) * 10 + x.count(7), 101);
  }

  private static void pacing() {
    TypeBars x = new TypeBars();
    x.row(0, 2, 13);
    due("21: no basket", x.pace(0, 0, 1), STATE);
    due("21: no basket ahead of NULL", x.pace(1, 0, 1), STATE);
    due("21: row 8", x.pace(8, 0, 1), BAD);
    due("21: n 0", x.pace(0, 0, 0), BAD);
    due("21: n 13", x.pace(0, 0, 13), BAD);
    due("21: n -1", x.pace(0, 0, -1), BAD);
    x = with("p1;p2;p4;h4;");
    fillRow(x, 0, 0, 0, 0, 2, 2, 3, 3, 9, 0, -1, 1, 0, 2);
    due("21: missing", x.pace(1, 0, 1), NULL);
    due("21: beyond", x.pace(0, 12, 2), PLACE);
    due("21: below", x.pace(0, -1, 2), PLACE);
    due("21: of the most", x.pace(0, MAX, 12), PLACE);
    due("21: one letter", x.pace(0, 2, 1), 1);
    due("21: p1 thrice", x.pace(0, 0, 3), 2);
    due("21: p4 twice", x.pace(0, 3, 2), 8);
    due("21: h4 twice", x.pace(0, 5, 2), 10);
    due("21: no bar 9", x.pace(0, 7, 2), NONE);
    due("21: no bar -1", x.pace(0, 8, 2), NONE);
    due("21: a bar of none alone", x.pace(0, 7, 1), NONE);
    // 1 then 0: at pace 1 both are at their tops behind 2 ticks, at 2 bar 1 has fallen to 1 beside it.
    due("21: the other one waits", x.pace(0, 10, 2), 3);
    x.key(2);
    due("21: not at rest", x.pace(0, 3, 1), NONE);
    due("21: another is, and both meet at pace or later", x.pace(0, 0, 1), 1);
    due("21: it does not change", x.count(7), 1);
    x = with("p1;p1;p4;");
    x.key(0);
    x.key(1);
    fillRow(x, 0, 2);
    due("21: what would hang anyway", x.pace(0, 0, 1), NONE);
    x.ticks(1);
    due("21: beside what hangs", x.pace(0, 0, 1), NONE);
    x = with("p1;p1;p4;p3;");
    x.key(0);
    x.key(1);
    x.ticks(1);
    fillRow(x, 0, 3);
    due("21: apart from what hangs, but for the tops", x.pace(0, 0, 1), NONE);
    x = with("p2;p2;p4;p3;");
    x.key(0);
    x.key(1);
    x.ticks(1);
    fillRow(x, 0, 3);
    due("21: what hangs now counts not", x.pace(0, 0, 1), 1);
    x = with("h4;p4;");
    fillRow(x, 0, 1, 0, 0, 0);
    due("21: 12 behind the last one", x.pace(0, 1, 3), 10);
  }

  private static void bettering() {
    TypeBars x = new TypeBars();
    x.row(0, 2, 12);
    due("22: no basket", x.better(0, 0, 1, 0), STATE);
    due("22: row 8", x.better(8, 0, 1, 0), BAD);
    due("22: n 13", x.better(0, 0, 13, 0), BAD);
    due("22: n 0", x.better(0, 0, 0, 0), BAD);
    due("22: what 2", x.better(0, 0, 1, 2), BAD);
    due("22: what -1", x.better(0, 0, 1, -1), BAD);
    x = with("p4;s3;p1;");
    fillRow(x, 0, 0, 1, 0);
    due("22: missing", x.better(1, 0, 1, 0), NULL);
    due("22: beyond", x.better(0, 2, 2, 0), PLACE);
    // 0 rests 8 behind its key, so 4 is the least for 0 1 0; beside each other they meet at 2 by it, apart they do not.
    due("22: as it is", x.pace(0, 0, 3), 5);
    due("22: less", x.better(0, 0, 3, 0), 12);
    due("22: less: pace", x.better(0, 0, 3, 1), 4);
    x = with("p3;p3;p1;p1;");
    fillRow(x, 0, 0, 1);
    due("22: beside at once", x.pace(0, 0, 2), 1);
    x = with("p4;p4;p1;p1;");
    x.key(2);
    x.key(3);
    x.ticks(1);
    fillRow(x, 0, 1);
    due("22: none as it is", x.pace(0, 0, 1), NONE);
    // Hanging at their tops, 2 and 3 catch whatever comes to its own.
    due("22: none at all", x.better(0, 0, 1, 0), NONE);
    x = with("p4;p4;p2;p2;");
    x.key(2);
    x.key(3);
    x.ticks(1);
    fillRow(x, 0, 1);
    due("22: beside one that hangs", x.pace(0, 0, 1), NONE);
    due("22: the first of several", x.better(0, 0, 1, 0), 1);
    due("22: its pace", x.better(0, 0, 1, 1), 1);
    due("22: nothing changes", x.bar(0, 1), 0);
    x = with("p1;p4;p4;p1;p1;");
    fillRow(x, 0, 1, 2, 1);
    due("22: p4 p4", x.pace(0, 0, 3), 5);
    // 1 rests 8 behind its key; at a pace of 4 bars beside each other meet at 2, bars apart do not.
    due("22: which", x.better(0, 0, 3, 0), 1);
    due("22: pace", x.better(0, 0, 3, 1), 4);
    fillRow(x, 1, 1, 0, 2, 1);
    due("22: the word asked for, not the one before", x.better(1, 2, 2, 0), NONE);
    due("22: from i on", x.better(0, 0, 3, 0), 1);
    x = with("p4;p1;p4;");
    fillRow(x, 0, 0, 2, 0);
    due("22: apart already", x.pace(0, 0, 3), 4);
    due("22: none is less", x.better(0, 0, 3, 0), NONE);
  }

  private static void fitting() {
    TypeBars x = new TypeBars();
    due("23: no basket", x.fits(0, 0, 0, 1, 0), BAD);
    x = with("p2;s4;p1;");
    fillRow(x, 0, 1, 2, 1, 0, 0);
    due("23: bar 3", x.fits(3, 0, 0, 1, 0), BAD);
    due("23: row 8", x.fits(0, 8, 0, 1, 0), BAD);
    due("23: n 0", x.fits(0, 0, 0, 0, 0), BAD);
    due("23: n 13", x.fits(0, 0, 0, 13, 0), BAD);
    due("23: what 4", x.fits(0, 0, 0, 1, 4), BAD);
    due("23: what -1", x.fits(0, 0, 0, 1, -1), BAD);
    due("23: missing", x.fits(0, 1, 0, 1, 0), NULL);
    due("23: beyond", x.fits(0, 0, 3, 3, 0), PLACE);
    due("23: below", x.fits(0, 0, -1, 3, 0), PLACE);
    due("23: at rest by no kind", x.fits(0, 0, 0, 4, 0), 0);
    due("23: at rest by no place", x.fits(0, 0, 0, 4, 3), 0);
    due("23: times", x.fits(0, 0, 0, 4, 2), 1);
    due("23: times of 2 1 0", x.fits(0, 0, 1, 3, 2), 2);
    due("23: times of 0 0", x.fits(0, 0, 3, 2, 2), 1016);
    due("23: at rest by every kind", x.fits(0, 0, 3, 2, 0), 62);
    due("23: at rest by every rise", x.fits(0, 0, 3, 2, 1), 30);
    due("23: at rest by every place", x.fits(0, 0, 3, 2, 3), 7);
    x.key(0);
    due("23: 1 2 1 0 by kinds", x.fits(0, 0, 0, 4, 0), 50);
    due("23: 1 2 by kinds", x.fits(0, 0, 0, 2, 0), 62);
    due("23: 1 2 1 by rises", x.fits(0, 0, 0, 3, 1), 4);
    due("23: 1 2 by rises", x.fits(0, 0, 0, 2, 1), 28);
    fillRow(x, 1, 1, 2, 3, 2, 1, 0);
    due("23: heavy", x.fits(0, 1, 0, 6, 0), 4);
    fillRow(x, 1, 1, 2, 0);
    due("23: sprung", x.fits(0, 1, 0, 3, 0), 8);
    x.key(1);
    fillRow(x, 1, 1, 1, 1);
    due("23: beside each other they hang", x.fits(0, 1, 0, 3, 3), 7);
    due("23: apart is nowhere", x.fits(0, 0, 0, 4, 3), 0);
    due("23: nothing changes", x.bar(0, 1) * 10 + x.count(7), 2);
    x.ticks(1);
    due("23: what hangs stays by every kind", x.fits(0, 1, 0, 3, 0), 62);
    due("23: what hangs, moving, meets again", x.fits(0, 1, 0, 1, 2), 5);
    fillRow(x, 2, 12, 12, 1, 2, 1, 0);
    due("23: from i on", x.fits(2, 2, 2, 1, 2), 1);
    fillRow(x, 3, 0, 0, 0, 0, 0, 0, 0, 0, 0, 0, 0, 0);
    due("23: twelve", x.fits(2, 3, 0, 12, 3), 7);
    x = with("p2;s4;p1;p1;");
    fillRow(x, 0, 1, 2, 1, 0);
    x.key(0);
    x.key(1);
    due("23: apart they do not hang", x.fits(0, 0, 0, 4, 3), 8);
    x = with("h4;");
    fillRow(x, 0, 1, 0);
    due("23: time 8 is the last but one", x.fits(0, 0, 0, 2, 2), 256);
    fillRow(x, 0, 0);
    due("23: time 9 is the last", x.fits(0, 0, 0, 1, 2), 512);
  }

  private static void chances() {
    TypeBars x = new TypeBars();
    due("24: no basket", x.chance(0, 0, 0), STATE);
    due("24: no basket ahead of BAD", x.chance(-1, 11, 2), STATE);
    x = with("p2;p2;p2;p4;");
    due("24: n 61", x.chance(61, 0, 0), BAD);
    due("24: n -1", x.chance(-1, 0, 0), BAD);
    due("24: c 11", x.chance(0, 11, 0), BAD);
    due("24: c -1", x.chance(0, -1, 0), BAD);
    due("24: what 2", x.chance(0, 0, 2), BAD);
    due("24: what -1", x.chance(0, 0, -1), BAD);
    due("24: none moves", x.chance(60, 3, 0) * 10 + x.chance(60, 3, 1), 11);
    x.key(0);
    x.key(2);
    due("24: now", x.chance(0, 5, 0) * 10 + x.chance(0, 5, 1), 11);
    due("24: behind 1", x.chance(1, 5, 0) * 10 + x.chance(1, 5, 1), 11);
    due("24: behind 2, above", x.chance(2, 5, 0), 3);
    due("24: behind 2, below", x.chance(2, 5, 1), 4);
    due("24: 3 of 10, above", x.chance(60, 3, 0), 51);
    due("24: 3 of 10, below", x.chance(60, 3, 1), 100);
    due("24: none falls back", x.chance(2, 0, 0) * 10 + x.chance(2, 0, 1), 1);
    due("24: all fall back", x.chance(2, 10, 0) * 10 + x.chance(2, 10, 1), 11);
    x.key(1);
    // Clear behind 1 tick, if there move: none, one of them, 0 and 2; behind 2 these two meet at their tops.
    due("24: three behind 1", x.chance(1, 5, 0) * 10 + x.chance(1, 5, 1), 58);
    due("24: three behind 2", x.chance(2, 5, 0) * 10 + x.chance(2, 5, 1), 12);
    due("24: nothing changes", x.count(4) * 10 + x.count(7), 73);
    x.ticks(1);
    due("24: what hangs now", x.chance(0, 10, 0) * 10 + x.chance(0, 10, 1), 1);
    x = with("p4;h4;p4;h4;p4;h4;p4;h4;");
    for (int b = 0; b < 8; b++) x.key(b);
    // Sets of k of 8 in a row that have no neighbours: 1 8 21 20 5; 3 of 10 goes on moving, 7 of 10 falls back:
    // 5764801 + 8 * 3 * 823543 + 21 * 9 * 117649 + 20 * 27 * 16807 + 5 * 81 * 2401 = 57813679, which is odd, and no
    // multiple of 5.
    due("24: eight, above", x.chance(1, 7, 0), 57813679);
    due("24: eight, below", x.chance(1, 7, 1), 100000000);
  }

  private static void draws() {
    TypeBars x = new TypeBars();
    due("25: no basket", x.drawn(0, 1, 0), STATE);
    due("25: no basket ahead of BAD", x.drawn(-1, 0, 9), STATE);
    x = with("p1;");
    due("25: n 61", x.drawn(61, 1, 0), BAD);
    due("25: n -1", x.drawn(-1, 1, 0), BAD);
    due("25: seed 0", x.drawn(0, 0, 0), BAD);
    due("25: seed 1000000", x.drawn(0, 1000000, 0), BAD);
    due("25: what 2", x.drawn(0, 1, 2), BAD);
    due("25: what -1", x.drawn(0, 1, -1), BAD);
    due("25: seed 999999", x.drawn(0, 999999, 0), 0);
    // X of 1: 16807 (rest by 3: 1), 282475249 (1), 1622650073 (2), 984943658 (2), 1144108930 (1), 470211272 (2),
    // 101027544 (0).
    due("25: six", x.drawn(6, 1, 0), 0);
    due("25: the seventh", x.drawn(7, 1, 0), 1);
    due("25: nothing changes", x.count(2) + x.count(4) + x.count(7), 0);
    x = with("b1;");
    due("25: blanks, too", x.drawn(7, 1, 0), 1);
    x = with("p1;");
    for (int i = 0; i < 21; i++) {
      x.key(0);
      x.ticks(2);
    }
    due("25: in the end, too", x.drawn(7, 1, 0), 1);
    x = with("p1;p1;");
    x.key(0);
    x.key(1);
    // Of X of 1 the third is the first that leaves 0 by 11.
    due("25: they hang", x.drawn(2, 1, 1), 2);
    due("25: they are freed", x.drawn(3, 1, 1), 0);
    x.ticks(1);
    due("25: they hang yet", x.drawn(0, 1, 1), 2);
    // 11 times 16807 leaves 0 by 11 at once.
    due("25: freed", x.drawn(1, 11, 1), 0);
  }

  private static void images() {
    TypeBars x = new TypeBars();
    due("26: 2", x.image(2), BAD);
    due("26: -1", x.image(-1), BAD);
    due("26: no basket", x.image(0), STATE);
    due("27: 2", x.restore(2), BAD);
    due("27: -1", x.restore(-1), BAD);
    due("27: none", x.restore(0), STATE);
    x = with("p1;p2;p4;");
    x.key(0);
    x.ticks(1);
    x.swap(1, 2);
    x.key(2);
    due("26: kept", x.image(1), 1);
    due("26: acts stay", x.count(7), 4);
    due("27: the other is none", x.restore(0), STATE);
    x.ticks(9);
    x.back();
    feed(x, "s4;");
    x.basket();
    due("27: restored", x.restore(1), 1);
    due("27: bars", x.count(1), 3);
    due("27: tick", x.count(2), 1);
    due("27: column", x.count(3), 1);
    due("27: paper", x.paper(0), 0);
    due("27: moving", x.count(4), 5);
    due("27: height", x.bar(0, 2), 1);
    due("27: place", x.bar(1, 1), 2);
    due("27: top", x.bar(2, 5), 4);
    due("27: no act can be undone", x.undo(), STATE);
    x.ticks(5);
    due("27: again", x.restore(1), 1);
    due("27: the image is as it was", x.count(2), 1);
    due("27: no act of this basket, either", x.count(7), 0);
    x = with("p1;p1;");
    x.key(0);
    x.key(1);
    x.ticks(1);
    x.image(0);
    x.free();
    x.image(1);
    x.restore(0);
    due("27: they hang", x.count(5), 3);
    x.restore(1);
    due("27: they do not", x.count(5), 0);
  }

  private static void kinds() {
    TypeBars x = new TypeBars();
    due("28: no basket", x.kind(0), BAD);
    due("29: no basket", x.as(0, 0), BAD);
    x = with("p1;h1;s1;d1;b1;");
    String[] is = {"110000", "111000", "110100", "100010", "100011"};
    for (int b = 0; b < 5; b++) {
      due("28: kind of " + b, x.kind(b), b + 1);
      for (int k = 0; k < 6; k++) {
        boolean so = is[b].charAt(k) == '1';
        due("29: " + b + " as " + k, x.as(b, k), so ? b : KIND);
        due("33: " + b + " as " + k, x.status(), so ? 0 : 3);
      }
    }
    due("28: bar 5", x.kind(5), BAD);
    due("28: bar -1", x.kind(-1), BAD);
    due("29: bar 5", x.as(5, 0), BAD);
    due("29: kind 6", x.as(0, 6), BAD);
    due("29: kind -1", x.as(0, -1), BAD);
  }

  private static void traced(TypeBars x, String what, int... bodies) {
    for (int i = 0; i < bodies.length; i++) due("31: " + what + ", body " + i, x.trace(i), bodies[i]);
    due("31: " + what + ", no more", x.trace(bodies.length), NONE);
  }

  private static void asks() {
    TypeBars x = new TypeBars();
    due("30: no basket", x.ask(0, 0), BAD);
    x = with("p2;h3;s4;d1;b2;p4;");
    due("30: size of a plain one", x.ask(0, 0), 2);
    traced(x, "plain size", 11, 10, 21, 20);
    due("30: mark of a plain one", x.ask(5, 1), 5);
    traced(x, "plain mark", 21, 20);
    due("30: size of a heavy one", x.ask(1, 0), -5);
    traced(x, "heavy size", 12, 11, 10, 24, 21, 20);
    due("30: mark of a heavy one", x.ask(1, 1), 2);
    traced(x, "heavy mark", 24, 21, 20);
    due("30: size of a sprung one", x.ask(2, 0), 4 + 2 - 1000);
    traced(x, "sprung size", 11, 10, 22, 21, 20);
    due("30: mark of a sprung one", x.ask(2, 1), -998);
    traced(x, "sprung mark", 22, 21, 20);
    due("30: size of a dead one", x.ask(3, 0), -99);
    traced(x, "dead size", 13, 10);
    due("30: mark of a dead one", x.ask(3, 1), 102);
    traced(x, "dead mark", 23, 20, 13, 10);
    due("30: size of a blank", x.ask(4, 0), -196);
    traced(x, "blank size", 14, 13, 10);
    due("30: mark of a blank", x.ask(4, 1), 200);
    traced(x, "blank mark", 23, 20, 14, 13, 10);
    due("30: bar 6", x.ask(6, 0), BAD);
    due("30: bar -1", x.ask(-1, 0), BAD);
    due("30: what 2", x.ask(0, 2), BAD);
    due("30: what -1", x.ask(0, -1), BAD);
    traced(x, "what is refused changes nothing", 23, 20, 14, 13, 10);
    due("31: -1", x.trace(-1), NONE);
    due("31: 16", x.trace(16), NONE);
    due("31: of the most", x.trace(MAX), NONE);
    x.key(0);
    x.key(2);
    x.swap(0, 5);
    x.ticks(1);
    due("30: with a height", x.ask(0, 1), 1);
    due("30: with a height, sprung", x.ask(2, 0), 4 + 2 + 1 - 1000);
    due("30: by number, not place", x.ask(0, 0), 3);
  }

  private static void counts() {
    TypeBars x = with("p1;d2;b3;");
    due("32: what 9", x.count(9), BAD);
    due("32: what -1", x.count(-1), BAD);
    x.row(3, 0, 1);
    x.feed(1);
    x.key(0);
    x.ticks(1);
    x.key(2);
    int[] all = {1, 3, 1, 1, 5, 0, 1, 3, 1};
    for (int what = 0; what < 9; what++) due("32: " + what, x.count(what), all[what]);
    x = with("p1;p1;");
    x.key(0);
    x.key(1);
    x.ticks(1);
    due("32: hang", x.count(5), 3);
    due("32: none moves", x.count(4), 0);
  }

  private static void statuses() {
    TypeBars x = with("p1;");
    x.row(0, 0, -1);
    due("33: SIZE", x.status(), 4);
    x.row(9, 0, 1);
    due("33: BAD changes nothing", x.status(), 4);
    x.key(0);
    x.kind(0);
    x.count(0);
    x.free();
    due("33: calls without a row neither", x.status(), 4);
    x.row(0, 0, 3);
    due("33: none", x.status(), 0);
    x.set(0, 3, 1);
    due("33: PLACE", x.status(), 2);
    x.set(0, 2, 1);
    due("33: set", x.status(), 0);
    x.set(1, 0, 0);
    due("33: NULL", x.status(), 1);
    x.copy(0, 0, 0, 0, 1);
    due("33: copy", x.status(), 0);
    x.row(1, 1, 3);
    x.copy(0, 0, 1, 0, 1);
    due("33: STORE", x.status(), 5);
    x.drop(1);
    due("33: drop", x.status(), 0);
    x.as(0, 2);
    due("33: KIND", x.status(), 3);
    x.as(0, 9);
    due("33: as that was BAD", x.status(), 3);
    x.pace(0, 0, 1);
    due("33: pace", x.status(), 0);
    x.pace(1, 0, 1);
    due("33: pace, NULL", x.status(), 1);
    x.better(0, 0, 1, 0);
    due("33: better", x.status(), 0);
    x.better(0, 3, 1, 0);
    due("33: better, PLACE", x.status(), 2);
    x.fits(0, 0, 0, 1, 0);
    due("33: fits", x.status(), 0);
    x.fits(0, 2, 0, 1, 0);
    due("33: fits, NULL", x.status(), 1);
    x.as(0, 1);
    due("33: as", x.status(), 0);
    TypeBars y = new TypeBars();
    y.drop(0);
    y.pace(0, 0, 1);
    due("33: STATE changes nothing", y.status(), 1);
  }

  public static void main(String[] args) {
    newObject();
    rowMade();
    setItem();
    copyItems();
    dropRow();
    feedTape();
    readTape();
    tickedBars();
    tickEnds();
    meeting();
    printing();
    keys();
    freeing();
    bringing();
    swapping();
    undoing();
    telling();
    foretelling();
    waiting();
    pacing();
    bettering();
    fitting();
    chances();
    draws();
    images();
    kinds();
    asks();
    counts();
    statuses();
    end();
  }
}
