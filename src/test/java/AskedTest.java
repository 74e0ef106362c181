/** Promises 26 to 30: kind, as, ask, trace, count. */
public final class AskedTest {
  private static final Check C = new Check("AskedTest");
  private static final int BAD = PenniesAway.BAD, NONE = PenniesAway.NONE;
  private static final String FIVE = "law 40;road 0 1 3;holder 1;"
      + "coin silver 0 7;coin gold 0 8;coin copper 0 9;coin old 0 10;coin forged 0 11;";

  public static void main(String[] args) {
    kinds();
    asks();
    traces();
    counts();
    C.end();
  }

  private static void kinds() {
    PenniesAway x = Texts.with(FIVE);
    C.due("kind(-1)", x.kind(-1), BAD);
    C.due("kind(5)", x.kind(5), BAD);
    String[] isOne = {"110000", "111000", "110100", "110110", "100001"};
    int[] due = {1, 2, 3, 4, 5};
    for (int c = 0; c < 5; c++) {
      C.due("kind(" + c + ")", x.kind(c), due[c]);
      for (int k = 0; k < 6; k++) {
        C.due("as(" + c + ", " + k + ")", x.as(c, k), isOne[c].charAt(k) == '1' ? c : Texts.KIND);
        C.due("status()", x.status(), isOne[c].charAt(k) == '1' ? 0 : 3);
      }
      C.due("as(" + c + ", 6)", x.as(c, 6), BAD);
      C.due("as(" + c + ", -1)", x.as(c, -1), BAD);
    }
    C.due("as(5, 0)", x.as(5, 0), BAD);
    C.due("as(-1, 0)", x.as(-1, 0), BAD);
  }

  private static void asks() {
    PenniesAway x = Texts.with(FIVE);
    asked(x, 0, 0, 7 + 40, 11, 10, 21, 20);
    asked(x, 0, 1, 40, 21, 20);
    asked(x, 1, 0, -(8 + 61), 12, 11, 10, 21, 20);
    asked(x, 1, 1, 61, 21, 20);
    asked(x, 2, 0, 9 - 958, 11, 10, 22, 21, 20);
    asked(x, 2, 1, -958, 22, 21, 20);
    asked(x, 3, 0, 2 * (10 - 1954), 14, 11, 10, 24, 22, 21, 20);
    asked(x, 3, 1, -1954, 24, 22, 21, 20);
    asked(x, 4, 0, -89, 13, 10);
    asked(x, 4, 1, 4 + 89, 23, 20, 13, 10);
    x.days(5);
    asked(x, 4, 0, -84, 13, 10);
    C.due("ask(5, 0)", x.ask(5, 0), BAD);
    C.due("ask(-1, 0)", x.ask(-1, 0), BAD);
    C.due("ask(0, 2)", x.ask(0, 2), BAD);
    C.due("ask(0, -1)", x.ask(0, -1), BAD);
    C.due("what is refused changes nothing", x.trace(0), 13);
    C.due("trace(1)", x.trace(1), 10);
  }

  private static void asked(PenniesAway x, int coin, int what, int due, int... bodies) {
    String call = "ask(" + coin + ", " + what + ")";
    C.due(call, x.ask(coin, what), due);
    for (int i = 0; i < bodies.length; i++) {
      C.due(call + " trace(" + i + ")", x.trace(i), bodies[i]);
    }
    C.due(call + " trace behind", x.trace(bodies.length), NONE);
  }

  private static void traces() {
    PenniesAway x = Texts.with(FIVE);
    C.due("trace(0)", x.trace(0), NONE);
    x.ask(3, 0);
    C.due("trace(-1)", x.trace(-1), NONE);
    C.due("trace(6)", x.trace(6), 20);
    C.due("trace(7)", x.trace(7), NONE);
    C.due("trace(15)", x.trace(15), NONE);
    C.due("trace(16)", x.trace(16), NONE);
    C.due("trace(MAX)", x.trace(Integer.MAX_VALUE), NONE);
    C.due("trace(MIN)", x.trace(Integer.MIN_VALUE), NONE);
  }

  private static void counts() {
    PenniesAway x = Texts.with(FIVE);
    x.row(3, 0, 0);
    x.feed(0, 5);
    x.send(4);
    x.days(3);
    C.due("count(-1)", x.count(-1), BAD);
    C.due("count(8)", x.count(8), BAD);
    int[] due = {1, 1, 5, 3, 2, 0, 1, 5};
    for (int what = 0; what < 8; what++) {
      C.due("count(" + what + ")", x.count(what), due[what]);
    }
    x.days(40);
    C.due("count(5)", x.count(5), 3);
    x.days(9);
    C.due("count(5)", x.count(5), 3);
    x.days(10);
    C.due("count(5)", x.count(5), 4);
    x.send(0);
    x.days(3);
    C.due("a dumb one that is lost is dumb yet", x.count(5), 4);
    C.due("count(6)", x.count(6), 2);
  }
}
