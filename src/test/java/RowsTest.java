/** Promises 1 to 5 and 31: a new object, row, set, copy, drop, status. */
public final class RowsTest {
  private static final Check C = new Check("RowsTest");

  public static void main(String[] args) {
    newObject();
    row();
    set();
    copy();
    drop();
    status();
    C.end();
  }

  private static void newObject() {
    PenniesAway x = new PenniesAway();
    C.due("NONE", PenniesAway.NONE, -1000000);
    C.due("BAD", PenniesAway.BAD, -1000001);
    C.due("STATE", PenniesAway.STATE, -1000002);
    C.due("FULL", PenniesAway.FULL, -1000003);
    for (int what = 0; what < 8; what++) {
      C.due("new: count(" + what + ")", x.count(what), 0);
    }
    C.due("new: late()", x.late(), PenniesAway.STATE);
    C.due("new: status()", x.status(), 0);
    C.due("new: fault()", x.fault(), 0);
    C.due("new: trace(0)", x.trace(0), PenniesAway.NONE);
    C.due("new: undo()", x.undo(), PenniesAway.STATE);
    C.due("new: restore(1)", x.restore(1), PenniesAway.STATE);
  }

  private static void row() {
    PenniesAway x = new PenniesAway();
    C.due("row(0, 0, 0)", x.row(0, 0, 0), 0);
    C.due("row(7, 2, 40)", x.row(7, 2, 40), 40);
    C.due("count(0)", x.count(0), 2);
    C.due("row(8, 0, 1)", x.row(8, 0, 1), PenniesAway.BAD);
    C.due("row(-1, 0, 1)", x.row(-1, 0, 1), PenniesAway.BAD);
    C.due("row(0, 3, 1)", x.row(0, 3, 1), PenniesAway.BAD);
    C.due("row(0, -1, 1)", x.row(0, -1, 1), PenniesAway.BAD);
    C.due("row(0, 0, 41)", x.row(0, 0, 41), PenniesAway.BAD);
    C.due("row(8, 0, -1)", x.row(8, 0, -1), PenniesAway.BAD);
    C.due("row(0, 3, -1)", x.row(0, 3, -1), PenniesAway.BAD);
    C.due("row(1, 0, -1)", x.row(1, 0, -1), Texts.SIZE);
    C.due("row(1, 0, MIN)", x.row(1, 0, Integer.MIN_VALUE), Texts.SIZE);
    C.due("count(0)", x.count(0), 2);
    C.due("row(7, 2, -5)", x.row(7, 2, -5), Texts.SIZE);
    C.due("drop(7): a found row() changes nothing", x.drop(7), 40);
    x.row(2, 2, 2);
    x.set(2, 0, 9);
    C.due("row(2, 2, 3) again", x.row(2, 2, 3), 3);
    x.row(3, 2, 3);
    x.set(3, 0, 7);
    x.copy(2, 0, 3, 0, 1);
    x.row(4, 2, 1);
    C.due("items are 0 at first", copied(x, 3, 0), 0);
  }

  /** An item has no call of its own: a coin's number, sent by it, tells 0 to 11. */
  private static int copied(PenniesAway x, int row, int i) {
    StringBuilder text = new StringBuilder("law 9;road 0 1 1;holder 1;");
    for (int c = 0; c < 12; c++) {
      text.append("coin old 0 0;");
    }
    Texts.read(x, text.toString());
    if (x.sendAll(row, i, 1) != 1) {
      return -1;
    }
    for (int c = 0; c < 12; c++) {
      if (x.coin(c, 2) == 1) {
        return c;
      }
    }
    return -2;
  }

  private static void set() {
    PenniesAway x = new PenniesAway();
    C.due("set(0, 0, 1)", x.set(0, 0, 1), Texts.NULL);
    C.due("set(8, 0, 1)", x.set(8, 0, 1), PenniesAway.BAD);
    C.due("set(-1, 0, 1)", x.set(-1, 0, 1), PenniesAway.BAD);
    x.row(0, 0, 3);
    x.row(1, 1, 3);
    x.row(2, 2, 3);
    C.due("set(0, 0, 127)", x.set(0, 0, 127), 127);
    C.due("set(0, 0, 128)", x.set(0, 0, 128), -128);
    C.due("set(0, 0, 511)", x.set(0, 0, 511), -1);
    C.due("set(0, 0, 256)", x.set(0, 0, 256), 0);
    C.due("set(1, 2, 32768)", x.set(1, 2, 32768), -32768);
    C.due("set(1, 2, 65536 + 5)", x.set(1, 2, 65541), 5);
    C.due("set(1, 2, 32767)", x.set(1, 2, 32767), 32767);
    C.due("set(2, 1, MIN)", x.set(2, 1, Integer.MIN_VALUE), Integer.MIN_VALUE);
    C.due("set(2, 3, 0)", x.set(2, 3, 0), Texts.PLACE);
    C.due("set(2, -1, 0)", x.set(2, -1, 0), Texts.PLACE);
    C.due("set(2, MAX, 0)", x.set(2, Integer.MAX_VALUE, 0), Texts.PLACE);
    x.row(3, 0, 0);
    C.due("set(3, 0, 0)", x.set(3, 0, 0), Texts.PLACE);
  }

  private static void copy() {
    PenniesAway x = new PenniesAway();
    x.row(0, 2, 4);
    x.row(1, 2, 3);
    x.row(2, 1, 4);
    C.due("copy(8, ..)", x.copy(8, 0, 0, 0, 0), PenniesAway.BAD);
    C.due("copy(0, 0, -1, ..)", x.copy(0, 0, -1, 0, 0), PenniesAway.BAD);
    C.due("copy(3, ..): NULL", x.copy(3, 0, 0, 0, 0), Texts.NULL);
    C.due("copy(0, 0, 3, ..): NULL", x.copy(0, 9, 3, 0, 0), Texts.NULL);
    C.due("copy(0, 9, 2, ..): STORE ahead of PLACE", x.copy(0, 9, 2, 0, 1), Texts.STORE);
    C.due("copy(0, -1, ..)", x.copy(0, -1, 1, 0, 1), Texts.PLACE);
    C.due("copy(.., -1, 1)", x.copy(0, 0, 1, -1, 1), Texts.PLACE);
    C.due("copy(.., -1)", x.copy(0, 0, 1, 0, -1), Texts.PLACE);
    C.due("copy beyond a", x.copy(0, 2, 1, 0, 3), Texts.PLACE);
    C.due("copy beyond b", x.copy(0, 0, 1, 0, 4), Texts.PLACE);
    C.due("copy far beyond", x.copy(0, Integer.MAX_VALUE, 1, 0, Integer.MAX_VALUE), Texts.PLACE);
    C.due("copy none at the ends", x.copy(0, 4, 1, 3, 0), 0);
    C.due("copy none beyond the end", x.copy(0, 5, 1, 3, 0), Texts.PLACE);
    for (int i = 0; i < 4; i++) {
      x.set(0, i, i + 1);
    }
    C.due("copy(0, 0, 0, 1, 3)", x.copy(0, 0, 0, 1, 3), 3);
    C.due("item 0", copied(x, 0, 0), 1);
    C.due("item 1", copied(x, 0, 1), 1);
    C.due("item 2", copied(x, 0, 2), 2);
    C.due("item 3", copied(x, 0, 3), 3);
    C.due("copy(0, 1, 0, 0, 3)", x.copy(0, 1, 0, 0, 3), 3);
    C.due("item 0 back", copied(x, 0, 0), 1);
    C.due("item 2 back", copied(x, 0, 2), 3);
    C.due("copy(0, 2, 1, 1, 2)", x.copy(0, 2, 1, 1, 2), 2);
    C.due("item 0 of 1", copied(x, 1, 0), 0);
    C.due("item 1 of 1", copied(x, 1, 1), 3);
  }

  private static void drop() {
    PenniesAway x = new PenniesAway();
    C.due("drop(0)", x.drop(0), Texts.NULL);
    C.due("drop(8)", x.drop(8), PenniesAway.BAD);
    C.due("drop(-1)", x.drop(-1), PenniesAway.BAD);
    x.row(0, 1, 5);
    x.row(1, 1, 0);
    C.due("drop(0)", x.drop(0), 5);
    C.due("count(0)", x.count(0), 1);
    C.due("drop(0) again", x.drop(0), Texts.NULL);
    C.due("drop(1)", x.drop(1), 0);
    C.due("count(0)", x.count(0), 0);
  }

  private static void status() {
    PenniesAway x = Texts.with(Texts.SMALL);
    x.drop(0);
    C.due("NULL", x.status(), 1);
    x.row(9, 0, 0);
    C.due("BAD leaves it", x.status(), 1);
    x.row(0, 0, 2);
    C.due("none", x.status(), 0);
    x.set(0, 2, 0);
    C.due("PLACE", x.status(), 2);
    x.days(1);
    x.send(0);
    x.feed(0, 9);
    C.due("calls without a ROW leave it", x.status(), 2);
    x.as(0, 3);
    C.due("KIND", x.status(), 3);
    x.as(0, 6);
    x.as(99, 0);
    C.due("as() that is BAD leaves it", x.status(), 3);
    x.as(0, 2);
    C.due("as() that has none", x.status(), 0);
    x.row(1, 0, -1);
    C.due("SIZE", x.status(), 4);
    x.row(1, 1, 2);
    x.copy(0, 0, 1, 0, 1);
    C.due("STORE", x.status(), 5);
    x.sendAll(0, 0, 0);
    C.due("sendAll() that is BAD leaves it", x.status(), 5);
    x.sendAll(0, 1, 2);
    C.due("sendAll() PLACE", x.status(), 2);
    x.set(1, 0, 77);
    x.drop(7);
    x.sendAll(1, 0, 1);
    C.due("sendAll() with no COIN leaves it", x.status(), 1);
    x.sendAll(0, 0, 1);
    C.due("sendAll() that has none", x.status(), 0);
    PenniesAway y = new PenniesAway();
    y.drop(0);
    y.sendAll(0, 0, 1);
    C.due("sendAll() in no REALM leaves it", y.status(), 1);
  }
}
