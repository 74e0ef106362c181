/** What the tests of boundary cases share: numbers at and beside the ends of a range, and items that are read. */
final class Edge {
  static final int MIN = Integer.MIN_VALUE, MAX = Integer.MAX_VALUE;
  /** Twelve coins, all with slack, of one holder whose way home is 5 days. */
  static final String TWELVE = "law 100;road 0 1 5;holder 1;" + "coin silver 0 0;".repeat(12);

  private Edge() {
  }

  /** A call with one number in it. */
  interface Call {
    int on(int v);
  }

  /** The nearest and the farthest numbers that a range does not hold. */
  static int[] outside(int least, int most) {
    return new int[] {least - 1, most + 1, MIN, MAX};
  }

  static void refusedOutside(Check c, String call, int least, int most, int due, Call made) {
    for (int v : outside(least, most)) {
      c.due(call + " with " + v, made.on(v), due);
    }
  }

  static void refusedBelow(Check c, String call, int least, int due, Call made) {
    c.due(call + " with " + (least - 1), made.on(least - 1), due);
    c.due(call + " with MIN", made.on(MIN), due);
  }

  /** Each number of the range is let through: the answer is none of the refusals. */
  static void taken(Check c, String call, int least, int most, Call made) {
    for (int v = least; v <= most; v++) {
      int answer = made.on(v);
      c.holds(call + " with " + v + " is let through, not " + answer, answer >= PenniesAway.NONE);
    }
  }

  /** An item that is 0 to 11, with TWELVE read: which coin is sent by it. No call tells an item itself. */
  static int item(PenniesAway x, int row, int i) {
    int sent = x.sendAll(row, i, 1);
    if (sent != 1) {
      return sent;
    }
    int left = x.mustGo(400);
    x.undo();
    return Integer.numberOfTrailingZeros(4095 & ~left);
  }

  static void items(Check c, String what, PenniesAway x, int row, int... due) {
    for (int i = 0; i < due.length; i++) {
      c.due(what + ": item " + i + " of row " + row, item(x, row, i), due[i]);
    }
    c.due(what + ": no more items in row " + row, x.set(row, due.length, 0), Texts.PLACE);
  }

  static void lay(PenniesAway x, int row, int lane, int... items) {
    x.row(row, lane, items.length);
    for (int i = 0; i < items.length; i++) {
      x.set(row, i, items[i]);
    }
  }

  /** Days beyond the 99 of one call. */
  static void live(PenniesAway x, int days) {
    for (int left = days; left > 0; left -= 99) {
      x.days(Math.min(left, 99));
    }
  }

  static void coin(Check c, String what, PenniesAway x, int coin, int... fromHolderOn) {
    for (int w = 0; w < fromHolderOn.length; w++) {
      c.due(what + ": coin(" + coin + ", " + w + ")", x.coin(coin, w), fromHolderOn[w]);
    }
  }
}
