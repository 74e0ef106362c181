/** Promises 9 to 16: pass, send, sendAll, days, flood, undo, coin, far. */
public final class ActsTest {
  private static final Check C = new Check("ActsTest");
  private static final int BAD = PenniesAway.BAD, STATE = PenniesAway.STATE, NONE = PenniesAway.NONE;

  public static void main(String[] args) {
    noRealm();
    pass();
    send();
    sendAll();
    sendAllRefused();
    daysOfACoin();
    daysOfTheDumb();
    daysRefused();
    lastDay();
    flood();
    undo();
    actsForgotten();
    coin();
    far();
    C.end();
  }

  private static void noRealm() {
    PenniesAway x = new PenniesAway();
    C.due("pass", x.pass(0, 0), BAD);
    C.due("send", x.send(0), BAD);
    C.due("sendAll, ahead of BAD", x.sendAll(9, 0, 0), STATE);
    C.due("days, ahead of BAD", x.days(0), STATE);
    C.due("flood, ahead of BAD", x.flood(0), STATE);
    C.due("undo", x.undo(), STATE);
    C.due("coin", x.coin(0, 0), BAD);
    C.due("far, ahead of BAD", x.far(8, 8), STATE);
  }

  private static void pass() {
    PenniesAway x = Texts.with(Texts.SMALL);
    C.due("pass(6, 0)", x.pass(6, 0), BAD);
    C.due("pass(-1, 0)", x.pass(-1, 0), BAD);
    C.due("pass(1, 5)", x.pass(1, 5), BAD);
    C.due("pass(1, -1)", x.pass(1, -1), BAD);
    C.due("pass(1, 1): his own", x.pass(1, 1), BAD);
    C.due("pass(1, 0): another TOWN", x.pass(1, 0), STATE);
    C.due("count(4)", x.count(4), 0);
    C.due("pass(1, 4)", x.pass(1, 4), 1);
    C.due("coin(1, 0)", x.coin(1, 0), 4);
    C.due("count(4)", x.count(4), 1);
    x.send(1);
    C.due("pass(1, 1) under way", x.pass(1, 1), STATE);
    C.due("pass(1, 4) under way, his own", x.pass(1, 4), BAD);
    C.due("coin(1, 0)", x.coin(1, 0), 4);
  }

  private static void send() {
    PenniesAway x = Texts.with(Texts.SMALL);
    C.due("send(-1)", x.send(-1), BAD);
    C.due("send(6)", x.send(6), BAD);
    C.due("send(5): no way", x.send(5), STATE);
    C.due("send(4)", x.send(4), 20);
    C.due("coin(4, 2)", x.coin(4, 2), 1);
    C.due("coin(4, 3)", x.coin(4, 3), 20);
    C.due("send(4) again", x.send(4), STATE);
    C.due("send(3): a forged one goes, too", x.send(3), 20);
    C.due("count(4)", x.count(4), 2);
    x.days(20);
    C.due("the forged one is kept", x.coin(3, 2), 3);
    C.due("send(3) when lost", x.send(3), STATE);
    C.due("send(4) on its way out", x.send(4), STATE);
  }

  private static void sendAll() {
    PenniesAway x = Texts.with(Texts.SMALL);
    x.row(0, 1, 14);
    int[] items = {5, 0, 0, 1, 5, 2, 3, 4, 1, 2, 3, 4, 0, 6};
    for (int i = 0; i < items.length; i++) {
      x.set(0, i, items[i]);
    }
    x.send(2);
    C.due("sendAll(0, 4, 1): none can go", x.sendAll(0, 4, 1), 0);
    C.due("no act of it", x.count(4), 1);
    C.due("sendAll(0, 0, 4)", x.sendAll(0, 0, 4), 2);
    C.due("each is an act", x.count(4), 3);
    C.due("sendAll(0, 1, 12)", x.sendAll(0, 1, 12), 2);
    C.due("count(4)", x.count(4), 5);
    C.due("undo()", x.undo(), 4);
    C.due("coin 4, the last sent", x.coin(4, 2), 0);
    C.due("coin 3", x.coin(3, 2), 1);
    C.due("status()", x.status(), 0);
  }

  private static void sendAllRefused() {
    PenniesAway x = Texts.with(Texts.SMALL);
    x.row(0, 0, 14);
    x.set(0, 13, 6);
    x.set(0, 12, -1);
    C.due("sendAll(8, 0, 1)", x.sendAll(8, 0, 1), BAD);
    C.due("sendAll(-1, 0, 1)", x.sendAll(-1, 0, 1), BAD);
    C.due("sendAll(0, 0, 0)", x.sendAll(0, 0, 0), BAD);
    C.due("sendAll(0, 0, 13)", x.sendAll(0, 0, 13), BAD);
    C.due("sendAll(1, 0, 13): BAD ahead of NULL", x.sendAll(1, 0, 13), BAD);
    C.due("sendAll(1, 0, 1)", x.sendAll(1, 0, 1), Texts.NULL);
    C.due("sendAll(0, 14, 1)", x.sendAll(0, 14, 1), Texts.PLACE);
    C.due("sendAll(0, 13, 2)", x.sendAll(0, 13, 2), Texts.PLACE);
    C.due("sendAll(0, -1, 2)", x.sendAll(0, -1, 2), Texts.PLACE);
    C.due("sendAll(0, MAX, 2)", x.sendAll(0, Integer.MAX_VALUE, 2), Texts.PLACE);
    C.due("sendAll(0, 2, 12): no COIN", x.sendAll(0, 2, 12), BAD);
    C.due("sendAll(0, 2, 11): no COIN", x.sendAll(0, 2, 11), BAD);
    C.due("nothing was sent", x.coin(0, 2), 0);
    C.due("count(4)", x.count(4), 0);
    C.due("status()", x.status(), 2);
  }

  private static void daysOfACoin() {
    PenniesAway x = Texts.with("law 30;road 0 1 5;holder 1;coin silver 0 24;coin silver 0 25;coin silver 0 26;");
    C.due("send(0)", x.send(0), 5);
    C.due("send(1)", x.send(1), 5);
    C.due("send(2)", x.send(2), 5);
    C.due("days(4)", x.days(4), 0);
    C.due("coin(1, 3)", x.coin(1, 3), 1);
    C.due("coin(1, 1)", x.coin(1, 1), 29);
    C.due("coin(2, 6): late by a day", x.coin(2, 6), -1);
    // one that is rung on the very day is not dumb, even if it was late
    C.due("days(1)", x.days(1), 0);
    for (int c = 0; c < 3; c++) {
      C.due("rung", x.coin(c, 1), 0);
      C.due("on its way out", x.coin(c, 2), 2);
      C.due("days to go", x.coin(c, 3), 5);
      C.due("slack: out and home again", x.coin(c, 6), 20);
      C.due("worth", x.coin(c, 7), 66);
    }
    C.due("days(5)", x.days(5), 0);
    C.due("with the holder", x.coin(0, 2), 0);
    C.due("days to go", x.coin(0, 3), 0);
    C.due("age", x.coin(0, 1), 5);
    C.due("slack", x.coin(0, 6), 20);
    C.due("day", x.count(3), 10);
    C.due("days(25)", x.days(25), 0);
    C.due("age at the span", x.coin(0, 1), 30);
    C.due("days(1)", x.days(1), 7);
    C.due("count(5)", x.count(5), 3);
  }

  private static void daysOfTheDumb() {
    PenniesAway x = Texts.with("law 10;road 0 1 5;holder 1;coin silver 0 6;coin forged 0 399;coin gold 0 400;coin old 0 5;");
    x.send(0);
    x.send(1);
    C.due("days(1)", x.days(1), 12);
    C.due("days(4)", x.days(4), 0);
    C.due("rung", x.coin(0, 1), 0);
    C.due("lost", x.coin(1, 2), 3);
    C.due("its age", x.coin(1, 1), 404);
    C.due("forged: not dumb", x.coin(1, 4), 0);
    C.due("dumb: no older", x.coin(2, 1), 401);
    C.due("dumb: no older", x.coin(3, 1), 6);
    x.send(2);
    C.due("days(3)", x.days(3), 0);
    C.due("lost: no older", x.coin(1, 1), 404);
    C.due("dumb, under way", x.coin(2, 3), 2);
    C.due("dumb: no slack", x.coin(2, 6), NONE);
    C.due("days(2)", x.days(2), 0);
    C.due("dumb: kept", x.coin(2, 2), 3);
    C.due("dumb: kept, days to go", x.coin(2, 3), 0);
    C.due("count(5)", x.count(5), 2);
    C.due("count(6)", x.count(6), 2);
    C.due("its holder", x.coin(2, 0), 0);
    // one that falls dumb on its way home is kept there
    x = Texts.with("law 3;road 0 1 5;holder 1;coin silver 0 0;");
    x.send(0);
    C.due("days(4)", x.days(4), 1);
    C.due("under way", x.coin(0, 2), 1);
    C.due("days(1)", x.days(1), 0);
    C.due("kept", x.coin(0, 2), 3);
    // and one that falls dumb on its way out arrives
    x = Texts.with("law 4;road 0 1 5;holder 1;coin silver 0 0;");
    x.send(0);
    C.due("days(5)", x.days(5), 0);
    C.due("out", x.coin(0, 2), 2);
    C.due("days(5)", x.days(5), 1);
    C.due("with him", x.coin(0, 2), 0);
    C.due("dumb", x.coin(0, 4), 1);
    C.due("age", x.coin(0, 1), 5);
  }

  private static void daysRefused() {
    PenniesAway x = Texts.with(Texts.SMALL);
    C.due("days(0)", x.days(0), BAD);
    C.due("days(-1)", x.days(-1), BAD);
    C.due("days(100)", x.days(100), BAD);
    C.due("count(3)", x.count(3), 0);
    C.due("count(4)", x.count(4), 0);
  }

  private static void lastDay() {
    PenniesAway x = Texts.with("law 1;holder 1;coin forged 0 400;");
    for (int i = 0; i < 101; i++) {
      C.due("days(99)", x.days(99), 0);
    }
    C.due("count(3)", x.count(3), 9999);
    C.due("coin(0, 1)", x.coin(0, 1), 10399);
    C.due("days(1)", x.days(1), PenniesAway.FULL);
    C.due("days(100): BAD ahead of FULL", x.days(100), BAD);
    C.due("count(3)", x.count(3), 9999);
    C.due("undo()", x.undo(), 23);
    C.due("count(3)", x.count(3), 9900);
    C.due("days(98)", x.days(98), 0);
    C.due("days(2)", x.days(2), PenniesAway.FULL);
    C.due("days(1)", x.days(1), 0);
  }

  private static void flood() {
    PenniesAway x = Texts.with("law 90;road 0 1 5;holder 1;coin silver 0 0;coin silver 0 0;coin old 0 0;coin forged 0 0;");
    C.due("flood(0)", x.flood(0), BAD);
    C.due("flood(-1)", x.flood(-1), BAD);
    C.due("flood(1000000)", x.flood(1000000), BAD);
    C.due("flood(1): none under way", x.flood(1), 0);
    C.due("an act all the same", x.count(4), 1);
    x.send(0);
    x.days(5);
    x.send(2);
    x.send(3);
    // draws of seed 1: 16807, 282475249, 1622650073
    C.due("flood(1)", x.flood(1), 3);
    C.due("out", x.coin(0, 3), 5 + 7);
    C.due("with a holder", x.coin(1, 3), 0);
    C.due("home", x.coin(2, 3), 5 + 9);
    C.due("home", x.coin(3, 3), 5 + 3);
    C.due("undo()", x.undo(), 5);
    C.due("back", x.coin(2, 3), 5);
    // seed 10: 168070 by 10 leaves none
    C.due("flood(10)", x.flood(10), 2);
    C.due("not held up", x.coin(0, 3), 5);
    C.due("flood(999999)", x.flood(999999), held(999999, 3));
  }

  private static int held(int seed, int draws) {
    java.math.BigInteger x = java.math.BigInteger.valueOf(seed);
    int held = 0;
    for (int i = 0; i < draws; i++) {
      x = x.multiply(java.math.BigInteger.valueOf(16807)).mod(java.math.BigInteger.valueOf(2147483647));
      held += x.mod(java.math.BigInteger.TEN).signum();
    }
    return held;
  }

  private static void undo() {
    PenniesAway x = Texts.with(Texts.SMALL);
    x.pass(1, 4);
    x.send(1);
    x.flood(5);
    x.days(99);
    C.due("count(4)", x.count(4), 4);
    C.due("undo()", x.undo(), 3);
    C.due("day", x.count(3), 0);
    C.due("dumb", x.count(5), 0);
    C.due("lost", x.count(6), 0);
    C.due("age", x.coin(1, 1), 20);
    C.due("under way", x.coin(1, 2), 1);
    C.due("days to go", x.coin(1, 3), 17 + 84035 % 10);
    C.due("undo()", x.undo(), 2);
    C.due("days to go", x.coin(1, 3), 17);
    C.due("undo()", x.undo(), 1);
    C.due("with him", x.coin(1, 2), 0);
    C.due("days to go", x.coin(1, 3), 0);
    C.due("holder", x.coin(1, 0), 4);
    C.due("undo()", x.undo(), 0);
    C.due("holder", x.coin(1, 0), 1);
    C.due("undo()", x.undo(), STATE);
  }

  private static void actsForgotten() {
    PenniesAway x = Texts.with("law 400;holder 1;coin gold 0 0;");
    for (int d = 1; d <= 30; d++) {
      x.days(d);
    }
    C.due("count(4)", x.count(4), 24);
    C.due("coin(0, 1)", x.coin(0, 1), 465);
    int age = 465;
    for (int left = 23; left >= 0; left--) {
      age -= left + 7;
      C.due("undo()", x.undo(), left);
      C.due("coin(0, 1)", x.coin(0, 1), age);
    }
    C.due("the oldest are forgotten", age, 21);
    C.due("undo()", x.undo(), STATE);
  }

  private static void coin() {
    PenniesAway x = Texts.with(Texts.SMALL);
    C.due("coin(-1, 0)", x.coin(-1, 0), BAD);
    C.due("coin(6, 0)", x.coin(6, 0), BAD);
    C.due("coin(0, -1)", x.coin(0, -1), BAD);
    C.due("coin(0, 8)", x.coin(0, 8), BAD);
    int[][] due = {
        {0, 45, 0, 0, 0, 60, 5, 8},
        {1, 20, 0, 0, 0, 40, 3, 7},
        {1, 30, 0, 0, 0, 40, -7, 0},
        {2, 5, 0, 0, 0, 40, NONE, 0},
        {2, 0, 0, 0, 0, 20, 0, 0},
        {3, 39, 0, 0, 0, 40, NONE, 0}};
    for (int c = 0; c < due.length; c++) {
      for (int what = 0; what < 8; what++) {
        C.due("coin(" + c + ", " + what + ")", x.coin(c, what), due[c][what]);
      }
    }
    x = Texts.with("law 7;road 0 1 1;holder 1;coin old 0 0;coin gold 0 0;");
    C.due("half, cut", x.coin(0, 5), 3);
    C.due("half as much more, cut", x.coin(1, 5), 10);
    C.due("worth, cut", x.coin(0, 7), 66);
    C.due("worth", x.coin(1, 7), 90);
    x = Texts.with("law 1;road 0 1 1;holder 1;coin old 0 0;");
    C.due("no span", x.coin(0, 5), 0);
    C.due("no worth", x.coin(0, 7), 0);
    x = Texts.with("law 9;road 0 1 5;holder 1;coin silver 0 3;coin silver 0 4;");
    C.due("worth of a day", x.coin(0, 7), 11);
    C.due("worth of none", x.coin(1, 7), 0);
  }

  private static void far() {
    PenniesAway x = Texts.with("law 1;road 0 1 90;road 1 2 90;road 2 3 90;road 3 4 90;road 4 5 90;road 5 6 90;road 0 2 50;");
    int[] due = {0, 90, 50, 140, 230, 320, 410};
    for (int t = 0; t < 7; t++) {
      C.due("far(0, " + t + ")", x.far(0, t), due[t]);
      C.due("far(" + t + ", 0)", x.far(t, 0), due[t]);
      C.due("far(" + t + ", " + t + ")", x.far(t, t), 0);
      C.due("far(7, " + t + ")", x.far(7, t), NONE);
    }
    C.due("far(7, 7)", x.far(7, 7), 0);
    C.due("far(8, 0)", x.far(8, 0), BAD);
    C.due("far(0, 8)", x.far(0, 8), BAD);
    C.due("far(-1, 0)", x.far(-1, 0), BAD);
    C.due("far(0, -1)", x.far(0, -1), BAD);
  }
}
