/** The boundary cases of ROWS: part 1 of the terms, promises 1 to 5 and 31, a sentence at a time. */
public final class EdgeRowsTest {
  private static final Check C = new Check("EdgeRowsTest");
  private static final int BAD = PenniesAway.BAD, STATE = PenniesAway.STATE;

  public static void main(String[] args) {
    newObject();
    calls512();
    missingAtFirst();
    rowsThereAre();
    lanes();
    itemsThereAre();
    zeroAtFirst();
    rowInPlace();
    rowRefused();
    setLowestBits();
    setPlaces();
    copyMoves();
    copyAsAhead();
    copyNone();
    copyPlaces();
    copyOrder();
    drop();
    statusOfFindings();
    statusOfOthers();
    statusOfRefused();
    C.end();
  }

  private static void newObject() {
    C.sentence("1: PenniesAway(): No REALM");
    PenniesAway x = new PenniesAway();
    C.due("late()", x.late(), STATE);
    C.due("far(0, 0)", x.far(0, 0), STATE);
    C.due("image(0)", x.image(0), STATE);
    C.due("coin(0, 0)", x.coin(0, 0), BAD);
    for (int what = 0; what < 8; what++) {
      C.due("count(" + what + ")", x.count(what), 0);
    }
    C.sentence("face: NONE = -1000000, BAD = -1000001, STATE = -1000002, FULL = -1000003");
    C.due("NONE", PenniesAway.NONE, -1000000);
    C.due("BAD", PenniesAway.BAD, -1000001);
    C.due("STATE", PenniesAway.STATE, -1000002);
    C.due("FULL", PenniesAway.FULL, -1000003);
    C.sentence("two objects have nothing in common");
    PenniesAway y = Texts.with(Edge.TWELVE);
    y.row(0, 0, 1);
    y.days(3);
    y.ask(0, 0);
    y.image(0);
    y.feed(0, 1);
    PenniesAway z = new PenniesAway();
    for (int what = 0; what < 8; what++) {
      C.due("count(" + what + ")", z.count(what), 0);
    }
    C.due("restore(0)", z.restore(0), STATE);
    C.due("trace(0)", z.trace(0), PenniesAway.NONE);
  }

  private static void calls512() {
    C.sentence("An object is used for at most 512 calls after it has been made");
    PenniesAway x = new PenniesAway();
    int fed = (Edge.TWELVE.length() + 7) / 8;
    Texts.read(x, Edge.TWELVE);
    for (int call = fed + 2; call <= 511; call += 2) {
      C.due("send(11), call " + call, x.send(11), 5);
      C.due("undo(), call " + (call + 1), x.undo(), 0);
    }
    C.due("coin(11, 2)", x.coin(11, 2), 0);
  }

  private static void missingAtFirst() {
    C.sentence("part 1: ROWS 0 .. 7 are missing (at first)");
    for (int r = 0; r < 8; r++) {
      PenniesAway x = new PenniesAway();
      C.due("drop(" + r + ")", x.drop(r), Texts.NULL);
      C.due("set(" + r + ", 0, 0)", x.set(r, 0, 0), Texts.NULL);
      C.due("copy(" + r + ", 0, " + r + ", 0, 0)", x.copy(r, 0, r, 0, 0), Texts.NULL);
      C.due("row(" + r + ", 0, 1)", x.row(r, 0, 1), 1);
      C.due("count(0)", x.count(0), 1);
    }
  }

  private static void rowsThereAre() {
    C.sentence("part 1: ROWS 0 .. 7");
    PenniesAway x = new PenniesAway();
    for (int r = 0; r < 8; r++) {
      C.due("row(" + r + ", 2, " + r + ")", x.row(r, 2, r), r);
      C.due("count(0)", x.count(0), r + 1);
    }
    Edge.refusedOutside(C, "row(v, 0, 1)", 0, 7, BAD, v -> x.row(v, 0, 1));
    Edge.refusedOutside(C, "set(v, 0, 1)", 0, 7, BAD, v -> x.set(v, 0, 1));
    Edge.refusedOutside(C, "copy(v, 0, 0, 0, 0)", 0, 7, BAD, v -> x.copy(v, 0, 0, 0, 0));
    Edge.refusedOutside(C, "copy(0, 0, v, 0, 0)", 0, 7, BAD, v -> x.copy(0, 0, v, 0, 0));
    Edge.refusedOutside(C, "drop(v)", 0, 7, BAD, x::drop);
    C.due("count(0)", x.count(0), 8);
    for (int r = 0; r < 8; r++) {
      C.due("drop(" + r + "): each row is its own", x.drop(r), r);
    }
    C.due("count(0)", x.count(0), 0);
  }

  private static void lanes() {
    C.sentence("part 1: a LANE (0 bytes, 1 shorts, 2 ints)");
    PenniesAway x = new PenniesAway();
    Edge.refusedOutside(C, "row(0, v, 1)", 0, 2, BAD, v -> x.row(0, v, 1));
    C.due("count(0)", x.count(0), 0);
    int[] kept = {64, -25536, 40000};
    for (int lane = 0; lane < 3; lane++) {
      C.due("row(0, " + lane + ", 1)", x.row(0, lane, 1), 1);
      C.due("set(0, 0, 40000) of lane " + lane, x.set(0, 0, 40000), kept[lane]);
    }
  }

  private static void itemsThereAre() {
    C.sentence("part 1: 0 to 40 ITEMS");
    for (int lane = 0; lane < 3; lane++) {
      PenniesAway x = new PenniesAway();
      C.due("row(0, " + lane + ", 0)", x.row(0, lane, 0), 0);
      C.due("an empty row is there", x.count(0), 1);
      C.due("set(0, 0, 1) of none", x.set(0, 0, 1), Texts.PLACE);
      C.due("drop(0)", x.drop(0), 0);
      C.due("row(0, " + lane + ", 40)", x.row(0, lane, 40), 40);
      C.due("set(0, 39, 1)", x.set(0, 39, 1), 1);
      C.due("set(0, 40, 1)", x.set(0, 40, 1), Texts.PLACE);
      C.due("row(0, " + lane + ", 41)", x.row(0, lane, 41), BAD);
      C.due("row(0, " + lane + ", MAX)", x.row(0, lane, Edge.MAX), BAD);
      C.due("drop(0)", x.drop(0), 40);
    }
  }

  /** With one coin alone an item of another number than 0 is no coin. */
  private static void zeroAtFirst() {
    C.sentence("part 1: ITEMS, 0 at first");
    for (int lane = 0; lane < 3; lane++) {
      PenniesAway x = Texts.with("law 9;road 0 1 1;holder 1;coin old 0 0;");
      x.row(1, lane, 40);
      zeros(x, "new, lane " + lane, 40);
      for (int i = 0; i < 40; i++) {
        x.set(1, i, -1);
      }
      x.row(1, lane, 5);
      zeros(x, "in place of another, lane " + lane, 5);
      x.row(1, lane, 40);
      zeros(x, "longer than the one before, lane " + lane, 40);
      x.set(1, 39, 7);
      x.drop(1);
      x.row(1, lane, 40);
      zeros(x, "behind drop(), lane " + lane, 40);
    }
  }

  private static void zeros(PenniesAway x, String when, int n) {
    for (int i = 0; i < n; i++) {
      C.due(when + ": item " + i, x.sendAll(1, i, 1), 1);
      x.undo();
    }
  }

  private static void rowInPlace() {
    C.sentence("2: A ROW of a LANE with n ITEMS, in place of what is there: n");
    PenniesAway x = new PenniesAway();
    x.row(5, 2, 9);
    C.due("set(5, 8, 300)", x.set(5, 8, 300), 300);
    C.due("row(5, 0, 3)", x.row(5, 0, 3), 3);
    C.due("still one row", x.count(0), 1);
    C.due("its lane", x.set(5, 2, 300), 44);
    C.due("its length", x.set(5, 3, 0), Texts.PLACE);
    C.due("row(5, 1, 0)", x.row(5, 1, 0), 0);
    C.due("still one row", x.count(0), 1);
    C.due("drop(5)", x.drop(5), 0);
  }

  private static void rowRefused() {
    C.sentence("2: BAD: ROW, LANE, n above 40; SIZE");
    PenniesAway x = new PenniesAway();
    C.due("row(0, 0, -1)", x.row(0, 0, -1), Texts.SIZE);
    C.due("row(7, 2, MIN)", x.row(7, 2, Edge.MIN), Texts.SIZE);
    C.due("no row of it", x.count(0), 0);
    C.due("ROW, ahead of SIZE", x.row(8, 0, -1), BAD);
    C.due("ROW, ahead of SIZE", x.row(-1, 0, -1), BAD);
    C.due("LANE, ahead of SIZE", x.row(0, 3, -1), BAD);
    C.due("LANE, ahead of SIZE", x.row(0, -1, -1), BAD);
    x.row(0, 2, 4);
    C.due("row(0, 0, 41)", x.row(0, 0, 41), BAD);
    C.due("row(0, 0, -1)", x.row(0, 0, -1), Texts.SIZE);
    C.due("the row that was stays", x.set(0, 3, 1000), 1000);
    C.due("and its length", x.drop(0), 4);
  }

  private static void setLowestBits() {
    C.sentence("3: ITEM i becomes v, its lowest bits, as many as the LANE has: what it is then");
    PenniesAway x = new PenniesAway();
    for (int lane = 0; lane < 3; lane++) {
      x.row(lane, lane, 1);
    }
    int[] bytes = {-128, -128, -129, 127, -1, -1, 0, 0, 127, 127, 128, -128, 255, -1, 256, 0, 257, 1, Edge.MIN, 0, Edge.MAX, -1};
    int[] shorts = {-32768, -32768, -32769, 32767, 32767, 32767, 32768, -32768, 65535, -1, 65536, 0, 128, 128, 256, 256,
        Edge.MIN, 0, Edge.MAX, -1};
    int[] ints = {Edge.MIN, Edge.MIN, Edge.MAX, Edge.MAX, -1, -1, 32768, 32768, 65536, 65536};
    becomes(x, 0, bytes);
    becomes(x, 1, shorts);
    becomes(x, 2, ints);
    Texts.read(x, Edge.TWELVE);
    x.set(0, 0, 256 + 3);
    x.set(1, 0, 65536 + 11);
    C.due("what is kept of a byte", Edge.item(x, 0, 0), 3);
    C.due("what is kept of a short", Edge.item(x, 1, 0), 11);
    x.set(2, 0, 65536 + 11);
    C.due("an int is kept whole: no coin", x.sendAll(2, 0, 1), BAD);
    x.set(2, 0, 7);
    C.due("what is kept of an int", Edge.item(x, 2, 0), 7);
  }

  private static void becomes(PenniesAway x, int row, int[] pairs) {
    for (int p = 0; p < pairs.length; p += 2) {
      C.due("set(" + row + ", 0, " + pairs[p] + ")", x.set(row, 0, pairs[p]), pairs[p + 1]);
    }
  }

  private static void setPlaces() {
    C.sentence("3: BAD: ROW; NULL; PLACE");
    PenniesAway x = Texts.with(Edge.TWELVE);
    Edge.lay(x, 0, 2, 1, 2, 3);
    C.due("set(0, 0, 4), the first", x.set(0, 0, 4), 4);
    C.due("set(0, 2, 6), the last", x.set(0, 2, 6), 6);
    Edge.refusedOutside(C, "set(0, v, 9)", 0, 2, Texts.PLACE, v -> x.set(0, v, 9));
    Edge.items(C, "only those that were set", x, 0, 4, 2, 6);
    C.due("NULL ahead of PLACE", x.set(1, -1, 0), Texts.NULL);
    C.due("NULL ahead of PLACE", x.set(1, 40, 0), Texts.NULL);
    C.due("BAD ahead of all", x.set(8, -1, 0), BAD);
    x.row(1, 0, 0);
    C.due("an empty row has no place", x.set(1, 0, 0), Texts.PLACE);
  }

  private static void copyMoves() {
    C.sentence("4: n ITEMS of a from i on come to b from j on: n");
    for (int lane = 0; lane < 3; lane++) {
      PenniesAway x = Texts.with(Edge.TWELVE);
      Edge.lay(x, 0, lane, 1, 2, 3, 4);
      Edge.lay(x, 7, lane, 5, 6, 7, 8, 9);
      C.due("copy(0, 1, 7, 2, 2)", x.copy(0, 1, 7, 2, 2), 2);
      Edge.items(C, "to", x, 7, 5, 6, 2, 3, 9);
      Edge.items(C, "from", x, 0, 1, 2, 3, 4);
      C.due("copy(0, 0, 7, 1, 4), all, up to the end", x.copy(0, 0, 7, 1, 4), 4);
      Edge.items(C, "to", x, 7, 5, 1, 2, 3, 4);
      C.due("copy(7, 0, 0, 0, 1)", x.copy(7, 0, 0, 0, 1), 1);
      Edge.items(C, "to", x, 0, 5, 2, 3, 4);
    }
    PenniesAway y = Texts.with(Edge.TWELVE);
    y.row(0, 0, 40);
    y.row(1, 0, 40);
    y.set(0, 0, 1);
    y.set(0, 39, 11);
    C.due("copy of 40", y.copy(0, 0, 1, 0, 40), 40);
    C.due("the first", Edge.item(y, 1, 0), 1);
    C.due("the last", Edge.item(y, 1, 39), 11);
  }

  private static void copyAsAhead() {
    C.sentence("4: as they were ahead");
    for (int lane = 0; lane < 3; lane++) {
      PenniesAway x = Texts.with(Edge.TWELVE);
      Edge.lay(x, 3, lane, 1, 2, 3, 4, 5);
      C.due("forwards by 1", x.copy(3, 0, 3, 1, 4), 4);
      Edge.items(C, "forwards", x, 3, 1, 1, 2, 3, 4);
      Edge.lay(x, 3, lane, 1, 2, 3, 4, 5);
      C.due("backwards by 1", x.copy(3, 1, 3, 0, 4), 4);
      Edge.items(C, "backwards", x, 3, 2, 3, 4, 5, 5);
      Edge.lay(x, 3, lane, 1, 2, 3, 4, 5);
      C.due("forwards by 2", x.copy(3, 0, 3, 2, 3), 3);
      Edge.items(C, "forwards by 2", x, 3, 1, 2, 1, 2, 3);
      C.due("on itself", x.copy(3, 0, 3, 0, 5), 5);
      Edge.items(C, "on itself", x, 3, 1, 2, 1, 2, 3);
    }
  }

  private static void copyNone() {
    C.sentence("4: n below 0 is PLACE: none are let through, at the end, too");
    PenniesAway x = Texts.with(Edge.TWELVE);
    Edge.lay(x, 0, 1, 1, 2);
    Edge.lay(x, 1, 1, 3);
    x.row(2, 1, 0);
    C.due("copy(0, 0, 1, 0, 0)", x.copy(0, 0, 1, 0, 0), 0);
    C.due("copy(0, 2, 1, 1, 0)", x.copy(0, 2, 1, 1, 0), 0);
    C.due("copy(2, 0, 2, 0, 0)", x.copy(2, 0, 2, 0, 0), 0);
    C.due("copy(0, 3, 1, 0, 0)", x.copy(0, 3, 1, 0, 0), Texts.PLACE);
    C.due("copy(0, 0, 1, 2, 0)", x.copy(0, 0, 1, 2, 0), Texts.PLACE);
    C.due("copy(2, 1, 2, 0, 0)", x.copy(2, 1, 2, 0, 0), Texts.PLACE);
    C.due("copy(2, 0, 2, 0, 1)", x.copy(2, 0, 2, 0, 1), Texts.PLACE);
    C.due("copy(0, -1, 1, 0, 0)", x.copy(0, -1, 1, 0, 0), Texts.PLACE);
    C.due("copy(0, 0, 1, -1, 0)", x.copy(0, 0, 1, -1, 0), Texts.PLACE);
    C.due("copy(0, 0, 1, 0, -1)", x.copy(0, 0, 1, 0, -1), Texts.PLACE);
    C.due("copy(0, 2, 1, 1, -1)", x.copy(0, 2, 1, 1, -1), Texts.PLACE);
    C.due("copy(0, 2, 1, 1, MIN)", x.copy(0, 2, 1, 1, Edge.MIN), Texts.PLACE);
    Edge.items(C, "as it was", x, 0, 1, 2);
    Edge.items(C, "as it was", x, 1, 3);
  }

  private static void copyPlaces() {
    C.sentence("4: PLACE (i, j, n below 0, or beyond an end)");
    PenniesAway x = Texts.with(Edge.TWELVE);
    Edge.lay(x, 0, 0, 1, 2, 3, 4);
    Edge.lay(x, 1, 0, 5, 6, 7);
    C.due("up to the end of a", x.copy(0, 3, 1, 0, 1), 1);
    C.due("beyond the end of a", x.copy(0, 3, 1, 0, 2), Texts.PLACE);
    C.due("at the end of a", x.copy(0, 4, 1, 0, 1), Texts.PLACE);
    C.due("up to the end of b", x.copy(0, 0, 1, 2, 1), 1);
    C.due("beyond the end of b", x.copy(0, 0, 1, 2, 2), Texts.PLACE);
    C.due("at the end of b", x.copy(0, 0, 1, 3, 1), Texts.PLACE);
    C.due("more than b has", x.copy(0, 0, 1, 0, 4), Texts.PLACE);
    C.due("i and n wrap around", x.copy(0, Edge.MAX, 1, 0, 1), Texts.PLACE);
    C.due("i and n wrap around", x.copy(0, 1, 1, 0, Edge.MAX), Texts.PLACE);
    C.due("j and n wrap around", x.copy(0, 0, 1, Edge.MAX, 1), Texts.PLACE);
    C.due("all wrap around", x.copy(0, Edge.MAX, 1, Edge.MAX, Edge.MAX), Texts.PLACE);
    C.due("i and n to 0", x.copy(0, Edge.MIN, 1, 0, Edge.MIN), Texts.PLACE);
    C.due("i below 0", x.copy(0, -1, 1, 0, 2), Texts.PLACE);
    C.due("j below 0", x.copy(0, 0, 1, -1, 2), Texts.PLACE);
    Edge.items(C, "from", x, 0, 1, 2, 3, 4);
    Edge.items(C, "to: what was let through alone", x, 1, 4, 6, 1);
    C.due("within one row beyond its end", x.copy(0, 0, 0, 1, 4), Texts.PLACE);
  }

  private static void copyOrder() {
    C.sentence("4: BAD: ROWS; NULL; STORE; PLACE: the first that fits");
    PenniesAway x = new PenniesAway();
    for (int lane = 0; lane < 3; lane++) {
      x.row(lane, lane, 2);
    }
    C.due("BAD a, NULL b", x.copy(8, 0, 3, 0, 0), BAD);
    C.due("NULL a, BAD b", x.copy(3, 0, 8, 0, 0), BAD);
    C.due("NULL a", x.copy(3, 0, 0, 0, 0), Texts.NULL);
    C.due("NULL b", x.copy(0, 0, 3, 0, 0), Texts.NULL);
    C.due("NULL both", x.copy(3, 0, 4, 0, 0), Texts.NULL);
    C.due("NULL a ahead of PLACE", x.copy(3, -1, 0, -1, -1), Texts.NULL);
    C.due("NULL b ahead of PLACE", x.copy(0, -1, 3, -1, -1), Texts.NULL);
    for (int a = 0; a < 3; a++) {
      for (int b = 0; b < 3; b++) {
        String of = "lanes " + a + ", " + b;
        C.due(of + ": STORE, of none, too", x.copy(a, 0, b, 0, 0), a == b ? 0 : Texts.STORE);
        C.due(of + ": STORE ahead of PLACE i", x.copy(a, -1, b, 0, 1), a == b ? Texts.PLACE : Texts.STORE);
        C.due(of + ": STORE ahead of PLACE j", x.copy(a, 0, b, 2, 1), a == b ? Texts.PLACE : Texts.STORE);
        C.due(of + ": STORE ahead of PLACE n", x.copy(a, 0, b, 0, -1), a == b ? Texts.PLACE : Texts.STORE);
      }
    }
  }

  private static void drop() {
    C.sentence("5: A ROW is missing from now on: how many ITEMS it had. BAD; NULL");
    PenniesAway x = Texts.with(Edge.TWELVE);
    int[] lengths = {0, 1, 39, 40};
    for (int n : lengths) {
      x.row(4, 1, n);
      C.due("drop(4) of " + n, x.drop(4), n);
      C.due("count(0)", x.count(0), 0);
      C.due("drop(4) again", x.drop(4), Texts.NULL);
      C.due("set(4, 0, 0)", x.set(4, 0, 0), Texts.NULL);
      C.due("copy(4, ..)", x.copy(4, 0, 4, 0, 0), Texts.NULL);
      C.due("sendAll(4, 0, 1)", x.sendAll(4, 0, 1), Texts.NULL);
    }
    Edge.lay(x, 3, 0, 1);
    Edge.lay(x, 5, 0, 2);
    x.row(4, 0, 9);
    C.due("drop(4)", x.drop(4), 9);
    Edge.items(C, "the row before it stays", x, 3, 1);
    Edge.items(C, "the row behind it stays", x, 5, 2);
  }

  private static void statusOfFindings() {
    C.sentence("31: Of the latest call with a ROW, or as(): the number of its FINDING; 0: it had none, or there was none");
    PenniesAway x = Texts.with(Edge.TWELVE);
    C.due("there was none", x.status(), 0);
    found(x, "set NULL", x.set(0, 0, 0), 1);
    found(x, "row", x.row(0, 0, 2), 0);
    found(x, "set PLACE", x.set(0, 2, 0), 2);
    found(x, "set", x.set(0, 1, 0), 0);
    found(x, "as KIND", x.as(0, 2), 3);
    found(x, "as", x.as(0, 1), 0);
    found(x, "row SIZE", x.row(0, 0, -1), 4);
    found(x, "copy", x.copy(0, 0, 0, 0, 1), 0);
    x.row(1, 1, 2);
    found(x, "copy STORE", x.copy(0, 0, 1, 0, 1), 5);
    found(x, "sendAll", x.sendAll(0, 0, 1), 0);
    found(x, "sendAll PLACE", x.sendAll(0, 1, 2), 2);
    found(x, "sendAll that sends none", x.sendAll(0, 0, 1), 0);
    found(x, "sendAll NULL", x.sendAll(2, 0, 1), 1);
    found(x, "drop", x.drop(0), 0);
    found(x, "drop NULL", x.drop(0), 1);
    found(x, "copy PLACE", x.copy(1, 2, 1, 0, 1), 2);
    found(x, "copy NULL", x.copy(0, 2, 1, 0, 1), 1);
    C.due("told twice", x.status(), 1);
  }

  private static void found(PenniesAway x, String call, int answer, int number) {
    C.due(call + ": status()", x.status(), number);
    C.holds(call + ": the answer, " + answer, number == 0 ? answer >= 0 : answer == -1000010 - number);
  }

  private static void statusOfOthers() {
    C.sentence("31: a call with a ROW, or as(), alone");
    PenniesAway x = Texts.with(Edge.TWELVE);
    x.row(0, 0, -1);
    int[] answers = {x.feed(0, 1), x.realm(), x.fault(), x.pass(0, 0), x.send(0), x.days(1), x.flood(1), x.undo(),
        x.coin(0, 0), x.far(0, 0), x.late(), x.mustGo(1), x.save(1), x.tour(1, 0), x.mint(0), x.sounds(1, 1),
        x.ear(1, 1, 1, 1, 1), x.image(0), x.restore(0), x.kind(0), x.ask(0, 0), x.trace(0), x.count(0), x.status()};
    C.due("calls", answers.length, 24);
    C.due("status() behind them", x.status(), 4);
    Texts.read(x, Edge.TWELVE);
    C.due("status() behind a realm that is read", x.status(), 4);
  }

  private static void statusOfRefused() {
    C.sentence("31: that was not BAD, STATE, FULL");
    PenniesAway x = new PenniesAway();
    x.row(0, 0, -1);
    C.due("sendAll STATE", x.sendAll(0, 0, 1), STATE);
    C.due("as BAD", x.as(0, 0), BAD);
    C.due("status()", x.status(), 4);
    Texts.read(x, Edge.TWELVE);
    int[] bad = {x.row(8, 0, 0), x.row(0, 3, 0), x.row(0, 0, 41), x.set(8, 0, 0), x.copy(8, 0, 0, 0, 0),
        x.copy(0, 0, 8, 0, 0), x.drop(8), x.sendAll(8, 0, 1), x.sendAll(0, 0, 0), x.sendAll(0, 0, 13), x.as(12, 0), x.as(0, 6)};
    for (int i = 0; i < bad.length; i++) {
      C.due("BAD call " + i, bad[i], BAD);
    }
    C.due("status()", x.status(), 4);
    Edge.lay(x, 0, 0, 12);
    x.as(0, 5);
    C.due("sendAll by an ITEM that is no COIN", x.sendAll(0, 0, 1), BAD);
    C.due("status()", x.status(), 3);
    x.as(0, 0);
    x.row(9, 0, -1);
    C.due("a BAD call behind one that had none", x.status(), 0);
  }
}
