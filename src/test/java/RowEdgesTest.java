/** Rows (promises 2 to 5), edge by edge: each sentence of the document that names a boundary. */
public final class RowEdgesTest extends Checks {
  private static final int[] TIMES_BY_HEIGHT = {512, 257, 130, 68, 40, 16};

  /** No call tells an item; but by a heavy bar that rises 4 each height from 0 to 5 has times of its own. */
  private static int item(TypeBars x, int row, int i) {
    int times = x.fits(0, row, i, 1, 2);
    for (int height = 0; height < TIMES_BY_HEIGHT.length; height++) {
      if (TIMES_BY_HEIGHT[height] == times) return height;
    }
    return times == 0 ? -1 : times;
  }

  private static void itemsAre(String what, TypeBars x, int row, int... items) {
    for (int i = 0; i < items.length; i++) due(what + ", item " + i, item(x, row, i), items[i]);
  }

  private static void missing() {
    sentence("ROWS 0 .. 7 are missing (at first)");
    TypeBars x = with("h4;");
    due("how many", x.count(0), 0);
    for (int r = 0; r < 8; r++) {
      due("set " + r, x.set(r, 0, 0), NULL);
      due("drop " + r, x.drop(r), NULL);
      due("copy " + r, x.copy(r, 0, r, 0, 0), NULL);
      due("pace " + r, x.pace(r, 0, 1), NULL);
      due("better " + r, x.better(r, 0, 1, 0), NULL);
      due("fits " + r, x.fits(0, r, 0, 1, 0), NULL);
    }
    due("how many yet", x.count(0), 0);
  }

  private static void rowMade() {
    sentence("2: BAD: ROW");
    edge("row", r -> new TypeBars().row(r, 0, 1), 0, 1, -1);
    edge("row", r -> new TypeBars().row(r, 0, 1), 7, 1, 8);
    sentence("2: BAD: LANE (0 bytes, 1 shorts, 2 ints)");
    edge("lane", lane -> new TypeBars().row(0, lane, 1), 0, 1, -1);
    edge("lane", lane -> new TypeBars().row(0, lane, 1), 2, 1, 3);
    sentence("2: BAD: n above 40 (0 to 40 ITEMS)");
    for (int l = 0; l < 3; l++) {
      int lane = l;
      edge("n in lane " + lane, n -> new TypeBars().row(0, lane, n), 40, 40, 41);
    }
    sentence("2: SIZE (fewer than none)");
    TypeBars x = new TypeBars();
    due("n 0", x.row(0, 0, 0), 0);
    due("n -1", x.row(0, 0, -1), SIZE);
    due("n -1 is told", x.status(), 4);
    due("n -41", x.row(0, 1, -41), SIZE);
    due("n of the least", x.row(7, 2, MIN), SIZE);
    due("no row came of it", x.count(0), 1);
    due("the row is as it was", x.drop(0), 0);
    sentence("2: BAD ahead of SIZE");
    due("row -1", x.row(-1, 0, -1), BAD);
    due("row 8", x.row(8, 0, -1), BAD);
    due("lane -1", x.row(0, -1, -1), BAD);
    due("lane 3", x.row(0, 3, -1), BAD);
  }

  private static void itemsAtFirst() {
    sentence("2: ITEMS, 0 at first, in place of what is there");
    TypeBars x = with("h4;");
    x.row(0, 2, 40);
    for (int i = 0; i < 40; i++) due("item " + i + " at first", item(x, 0, i), 0);
    for (int i = 0; i < 40; i++) x.set(0, i, 1 + i % 5);
    x.row(0, 2, 40);
    for (int i = 0; i < 40; i++) due("item " + i + " in place of another", item(x, 0, i), 0);
    x.set(0, 39, 5);
    x.row(0, 2, 39);
    due("the last one is none", x.set(0, 39, 0), PLACE);
    x.row(0, 2, 40);
    due("nor is it what it was, when there is one again", item(x, 0, 39), 0);
    x.set(0, 0, 5);
    due("drop", x.drop(0), 40);
    x.row(0, 2, 1);
    due("nor behind a drop", item(x, 0, 0), 0);
    due("another lane", x.row(0, 0, 1), 1);
    due("it is of that lane", x.set(0, 0, 257), 1);
    sentence("ROWS 0 .. 7, all of 40 ITEMS");
    for (int r = 0; r < 8; r++) x.row(r, r % 3, 40);
    due("how many", x.count(0), 8);
    for (int r = 0; r < 8; r++) due("the last item of " + r, x.set(r, 39, r), r);
    for (int r = 0; r < 8; r++) due("no more of " + r, x.set(r, 40, r), PLACE);
    for (int r = 0; r < 8; r++) due("drop " + r, x.drop(r), 40);
    due("none is there", x.count(0), 0);
  }

  private static void lowestBits() {
    sentence("3: ITEM i becomes v, its lowest bits, as many as the LANE has: what it is then");
    int[][] cut = {{0, 0, 0, 0}, {127, 127, 127, 127}, {128, -128, 128, 128}, {-128, -128, -128, -128},
        {-129, 127, -129, -129}, {255, -1, 255, 255}, {256, 0, 256, 256}, {-256, 0, -256, -256}, {-1, -1, -1, -1},
        {32767, -1, 32767, 32767}, {32768, 0, -32768, 32768}, {-32768, 0, -32768, -32768},
        {-32769, -1, 32767, -32769}, {65535, -1, -1, 65535}, {65536, 0, 0, 65536}, {-65536, 0, 0, -65536},
        {MAX, -1, -1, MAX}, {MIN, 0, 0, MIN}, {MIN + 1, 1, 1, MIN + 1}};
    TypeBars x = new TypeBars();
    for (int lane = 0; lane < 3; lane++) {
      x.row(lane, lane, 2);
      for (int[] v : cut) due("lane " + lane + ", " + v[0], x.set(lane, 1, v[0]), v[lane + 1]);
    }
    sentence("3: what it is then, for other calls, too");
    x = with("h4;");
    for (int lane = 0; lane < 3; lane++) x.row(lane, lane, 3);
    for (int lane = 0; lane < 3; lane++) {
      x.set(lane, 0, 257);
      x.set(lane, 1, 65538);
      x.set(lane, 2, 3);
    }
    itemsAre("bytes", x, 0, 1, 2, 3);
    itemsAre("shorts", x, 1, -1, 2, 3);
    itemsAre("ints", x, 2, -1, -1, 3);
  }

  private static void setPlaces() {
    sentence("3: BAD: ROW");
    edge("row", r -> ofRows(40).set(r, 0, 9), 0, 9, -1);
    edge("row", r -> ofRows(40).set(r, 0, 9), 7, 9, 8);
    sentence("3: NULL; PLACE");
    TypeBars x = with("h4;");
    fillRow(x, 0, 1, 2, 3);
    x.row(1, 0, 0);
    x.row(2, 2, 40);
    due("the first place", x.set(0, 0, 4), 4);
    due("the last place", x.set(0, 2, 5), 5);
    for (int i : new int[] {-1, 3, 4, 40, 65536, MAX, MIN}) due("place " + i, x.set(0, i, 0), PLACE);
    due("it is told", x.status(), 2);
    itemsAre("what is found changes nothing", x, 0, 4, 2, 5);
    due("no place in a row of none", x.set(1, 0, 0), PLACE);
    due("the last of 40", x.set(2, 39, 1), 1);
    due("beyond 40", x.set(2, 40, 1), PLACE);
    due("missing", x.set(3, 0, 1), NULL);
    due("missing is told", x.status(), 1);
    due("NULL ahead of PLACE", x.set(3, -1, 1), NULL);
    due("BAD ahead of PLACE", x.set(8, -1, 1), BAD);
    due("BAD is not told", x.status(), 1);
  }

  private static TypeBars ofRows(int items) {
    TypeBars x = new TypeBars();
    for (int r = 0; r < 8; r++) x.row(r, 2, items);
    return x;
  }

  private static TypeBars twoRows() {
    TypeBars x = with("h4;");
    fillRow(x, 0, 1, 2, 3, 4, 5);
    fillRow(x, 1, 5, 4, 3);
    x.row(2, 2, 0);
    x.row(3, 1, 5);
    return x;
  }

  private static void copied() {
    sentence("4: n ITEMS of a from i on come to b from j on, as they were ahead: n");
    TypeBars x = twoRows();
    due("upwards in one row", x.copy(0, 0, 0, 1, 4), 4);
    itemsAre("upwards", x, 0, 1, 1, 2, 3, 4);
    x = twoRows();
    due("downwards in one row", x.copy(0, 1, 0, 0, 4), 4);
    itemsAre("downwards", x, 0, 2, 3, 4, 5, 5);
    x = twoRows();
    due("onto themselves", x.copy(0, 0, 0, 0, 5), 5);
    itemsAre("onto themselves", x, 0, 1, 2, 3, 4, 5);
    due("to another row, up to its end", x.copy(0, 2, 1, 0, 3), 3);
    itemsAre("to", x, 1, 3, 4, 5);
    itemsAre("from", x, 0, 1, 2, 3, 4, 5);
    due("the last to the last", x.copy(1, 2, 0, 4, 1), 1);
    due("the first to the last", x.copy(0, 0, 1, 2, 1), 1);
    itemsAre("one", x, 1, 3, 4, 1);
    x = ofRows(40);
    due("all 40", x.copy(0, 0, 7, 0, 40), 40);
    due("41", x.copy(0, 0, 7, 0, 41), PLACE);
    due("all but one upwards", x.copy(0, 0, 0, 1, 39), 39);
    due("all upwards", x.copy(0, 0, 0, 1, 40), PLACE);
  }

  private static void copiedNone() {
    sentence("4: n ITEMS, none");
    TypeBars x = twoRows();
    due("at the first", x.copy(0, 0, 1, 0, 0), 0);
    due("at the ends", x.copy(0, 5, 1, 3, 0), 0);
    due("beyond the end of a", x.copy(0, 6, 1, 3, 0), PLACE);
    due("beyond the end of b", x.copy(0, 5, 1, 4, 0), PLACE);
    due("i below", x.copy(0, -1, 1, 0, 0), PLACE);
    due("j below", x.copy(0, 0, 1, -1, 0), PLACE);
    due("in a row of none", x.copy(2, 0, 2, 0, 0), 0);
    due("one in a row of none", x.copy(2, 0, 2, 0, 1), PLACE);
    due("beyond a row of none", x.copy(2, 1, 2, 0, 0), PLACE);
    due("one out of a row of none", x.copy(2, 0, 0, 0, 1), PLACE);
    due("one into a row of none", x.copy(0, 0, 2, 0, 1), PLACE);
    due("two lanes all the same", x.copy(0, 0, 3, 0, 0), STORE);
    due("missing all the same", x.copy(0, 0, 4, 0, 0), NULL);
    itemsAre("all as it was", x, 0, 1, 2, 3, 4, 5);
    itemsAre("all as it was there", x, 1, 5, 4, 3);
  }

  private static void copyRefused() {
    sentence("4: BAD: ROWS");
    edge("a", a -> ofRows(1).copy(a, 0, 0, 0, 1), 0, 1, -1);
    edge("a", a -> ofRows(1).copy(a, 0, 0, 0, 1), 7, 1, 8);
    edge("b", b -> ofRows(1).copy(0, 0, b, 0, 1), 0, 1, -1);
    edge("b", b -> ofRows(1).copy(0, 0, b, 0, 1), 7, 1, 8);
    sentence("4: PLACE (i, j, n below 0, or beyond an end)");
    TypeBars x = twoRows();
    int[][] wrong = {{-1, 0, 1}, {0, -1, 1}, {0, 0, -1}, {3, 0, 3}, {0, 1, 3}, {5, 0, 1}, {0, 3, 1}, {0, 0, 4},
        {0, 0, 6}, {MIN, 0, 1}, {0, MIN, 1}, {0, 0, MIN}, {MAX, 0, 1}, {0, MAX, 1}, {0, 0, MAX}, {1, 0, MAX},
        {MAX, 0, MAX}, {0, MAX, MAX}, {MAX, MAX, MAX}, {MIN, MIN, MIN}, {MAX, 0, MIN}, {MIN, 0, MAX}, {1, 1, -1}};
    for (int[] w : wrong) {
      due("from " + w[0] + " to " + w[1] + " of " + w[2], x.copy(0, w[0], 1, w[1], w[2]), PLACE);
      due("it is told", x.status(), 2);
    }
    itemsAre("what is found changes nothing in a", x, 0, 1, 2, 3, 4, 5);
    itemsAre("what is found changes nothing in b", x, 1, 5, 4, 3);
    sentence("4: NULL; STORE; PLACE, the first of these");
    due("both missing", x.copy(4, 0, 5, 0, 1), NULL);
    due("a missing", x.copy(4, 0, 0, 0, 1), NULL);
    due("b missing", x.copy(0, 0, 4, 0, 1), NULL);
    due("a missing, no such place", x.copy(4, -1, 0, 9, -1), NULL);
    due("b missing, no such place", x.copy(0, 9, 4, -1, 1), NULL);
    due("ints to shorts", x.copy(0, 0, 3, 0, 1), STORE);
    due("shorts to ints", x.copy(3, 0, 0, 0, 1), STORE);
    due("two lanes are told", x.status(), 5);
    due("two lanes, no such place", x.copy(0, 9, 3, -1, -1), STORE);
    due("no row ahead of all", x.copy(8, -1, 3, -1, -1), BAD);
    due("nor a second", x.copy(0, -1, 8, -1, -1), BAD);
    x.row(5, 0, 5);
    due("bytes to shorts", x.copy(5, 0, 3, 0, 1), STORE);
    due("bytes to bytes", x.copy(5, 0, 5, 4, 1), 1);
  }

  private static void dropped() {
    sentence("5: A ROW is missing from now on: how many ITEMS it had");
    TypeBars x = with("h4;");
    x.row(0, 0, 0);
    x.row(7, 2, 40);
    due("none", x.drop(0), 0);
    due("40", x.drop(7), 40);
    due("missing", x.drop(0), NULL);
    due("it is told", x.status(), 1);
    due("missing, too", x.drop(7), NULL);
    due("missing for copy", x.copy(7, 0, 7, 0, 0), NULL);
    due("missing for pace", x.pace(7, 0, 1), NULL);
    sentence("5: BAD");
    edge("row", r -> ofRows(3).drop(r), 0, 3, -1);
    edge("row", r -> ofRows(3).drop(r), 7, 3, 8);
  }

  public static void main(String[] args) {
    missing();
    rowMade();
    itemsAtFirst();
    lowestBits();
    setPlaces();
    copied();
    copiedNone();
    copyRefused();
    dropped();
    end();
  }
}
