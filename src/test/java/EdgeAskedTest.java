/** The boundary cases of what is ASKED: KINDS, BODIES, THE TRACE, promises 26 to 30, a sentence at a time. */
public final class EdgeAskedTest {
  private static final Check C = new Check("EdgeAskedTest");
  private static final int BAD = PenniesAway.BAD, NONE = PenniesAway.NONE;
  /** Coins 0 to 4 are of kinds 1 to 5; coins 5 to 11 are silver, the last of AGE 400. */
  private static final String KINDS = "law 41;road 0 1 3;holder 1;coin silver 0 7;coin gold 0 8;coin copper 0 9;coin old 0 10;coin forged 0 11;"
      + "coin silver 0 0;".repeat(6) + "coin silver 0 400;";

  public static void main(String[] args) {
    kinds();
    kindRefused();
    asKinds();
    asRefused();
    sizes();
    marks();
    asksChange();
    askRefused();
    traceNumbers();
    traceRoom();
    traceAhead();
    counts();
    countRefused();
    C.end();
  }

  private static void kinds() {
    C.sentence("26: The KIND of a COIN, as told (1 to 5)");
    PenniesAway x = Texts.with(KINDS);
    for (int c = 0; c < 12; c++) {
      C.due("kind(" + c + ")", x.kind(c), c < 5 ? c + 1 : 1);
    }
    x.send(4);
    x.days(99);
    C.due("lost and dumb ones have their KIND", x.kind(4) * 10 + x.kind(3), 54);
  }

  private static void kindRefused() {
    C.sentence("26: BAD");
    PenniesAway x = Texts.with(KINDS);
    C.due("kind(0)", x.kind(0), 1);
    C.due("kind(11)", x.kind(11), 1);
    Edge.refusedOutside(C, "kind(v)", 0, 11, BAD, x::kind);
    C.due("no REALM", new PenniesAway().kind(0), BAD);
    C.due("no COINS", Texts.with("law 1;").kind(0), BAD);
    C.due("one fewer", Texts.with("law 1;holder 1;coin old 0 0;").kind(1), BAD);
  }

  private static void asKinds() {
    C.sentence("part 3: 0 COIN; 1 SILVER, a COIN; 2 GOLD, a SILVER one; 3 COPPER, a SILVER one; 4 OLD, a COPPER one; 5 FORGED, a COIN");
    PenniesAway x = Texts.with(KINDS);
    String[] isOne = {"110000", "111000", "110100", "110110", "100001"};
    for (int c = 0; c < 5; c++) {
      for (int k = 0; k <= 5; k++) {
        boolean one = isOne[c].charAt(k) == '1';
        C.due("as(" + c + ", " + k + ")", x.as(c, k), one ? c : Texts.KIND);
        C.due("status() of as(" + c + ", " + k + ")", x.status(), one ? 0 : 3);
      }
    }
    C.due("as(11, 1): its number", x.as(11, 1), 11);
    C.due("it is taken, not made one", x.kind(3), 4);
  }

  private static void asRefused() {
    C.sentence("27: KIND (0 .. 5). BAD; KIND: it is no such one");
    PenniesAway x = Texts.with(KINDS);
    Edge.refusedOutside(C, "as(v, 0)", 0, 11, BAD, v -> x.as(v, 0));
    Edge.refusedOutside(C, "as(0, v)", 0, 5, BAD, v -> x.as(0, v));
    Edge.refusedOutside(C, "as(v, v)", 0, 11, BAD, v -> x.as(v, v));
    C.due("BAD ahead of KIND", x.as(12, 5), BAD);
    C.due("KIND", x.as(0, 5), Texts.KIND);
    C.due("no REALM", new PenniesAway().as(0, 0), BAD);
  }

  private static void sizes() {
    C.sentence("part 4: 0 SIZE: BODIES 10 to 14");
    PenniesAway x = Texts.with(KINDS);
    asked(x, 0, 0, 7 + 0 + 41, 11, 10, 21, 20);
    asked(x, 1, 0, -(8 + 1 + 61), 12, 11, 10, 21, 20);
    asked(x, 2, 0, 9 + 2 + 41 - 1000, 11, 10, 22, 21, 20);
    asked(x, 3, 0, 2 * (10 + 2 * (3 + 20 - 1000)), 14, 11, 10, 24, 22, 21, 20);
    asked(x, 4, 0, 11 - 100, 13, 10);
    asked(x, 11, 0, 400 + 11 + 41, 11, 10, 21, 20);
  }

  private static void marks() {
    C.sentence("part 4: 1 MARK: BODIES 20 to 24");
    PenniesAway x = Texts.with(KINDS);
    asked(x, 0, 1, 0 + 41, 21, 20);
    asked(x, 1, 1, 1 + 61, 21, 20);
    asked(x, 2, 1, 2 + 41 - 1000, 22, 21, 20);
    asked(x, 3, 1, 2 * (3 + 20 - 1000), 24, 22, 21, 20);
    asked(x, 4, 1, 4 - (11 - 100), 23, 20, 13, 10);
    asked(x, 11, 1, 11 + 41, 21, 20);
    PenniesAway y = Texts.with("law 1;holder 1;coin forged 0 0;coin forged 0 100;coin forged 0 400;coin old 0 0;");
    asked(y, 0, 0, -100, 13, 10);
    asked(y, 0, 1, 100, 23, 20, 13, 10);
    asked(y, 1, 0, 0, 13, 10);
    asked(y, 1, 1, 1, 23, 20, 13, 10);
    asked(y, 2, 0, 300, 13, 10);
    asked(y, 2, 1, 2 - 300, 23, 20, 13, 10);
    asked(y, 3, 1, 2 * (3 + 0 - 1000), 24, 22, 21, 20);
  }

  private static void asked(PenniesAway x, int coin, int what, int due, int... bodies) {
    String call = "ask(" + coin + ", " + what + ")";
    C.due(call, x.ask(coin, what), due);
    for (int i = 0; i < bodies.length; i++) {
      C.due(call + ", trace(" + i + ")", x.trace(i), bodies[i]);
    }
    for (int i = bodies.length; i < 9; i++) {
      C.due(call + ", trace(" + i + ")", x.trace(i), NONE);
    }
  }

  private static void asksChange() {
    C.sentence("part 4: AGE: as it is now");
    PenniesAway x = Texts.with(KINDS);
    x.days(3);
    C.due("three days older", x.ask(0, 0), 10 + 41);
    x.send(0);
    x.days(3);
    C.due("rung", x.ask(0, 0), 41);
    C.due("its MARK knows no AGE", x.ask(0, 1), 41);
    x.send(4);
    x.days(50);
    C.due("a lost one: its AGE when it came", x.ask(4, 0), 11 + 9 - 100);
    C.due("a dumb one: its AGE when it fell", x.ask(2, 1) + x.coin(2, 1), 2 + 41 - 1000 + 42);
    C.due("asks change nothing", x.count(4), 5);
  }

  private static void askRefused() {
    C.sentence("28: An ASK (0, 1) of a COIN. BAD");
    PenniesAway x = Texts.with(KINDS);
    Edge.refusedOutside(C, "ask(v, 0)", 0, 11, BAD, v -> x.ask(v, 0));
    Edge.refusedOutside(C, "ask(v, 1)", 0, 11, BAD, v -> x.ask(v, 1));
    Edge.refusedOutside(C, "ask(0, v)", 0, 1, BAD, v -> x.ask(0, v));
    C.due("no BODY began", x.trace(0), NONE);
    x.ask(4, 1);
    Edge.refusedOutside(C, "ask(v, 0)", 0, 11, BAD, v -> x.ask(v, 0));
    Edge.refusedOutside(C, "ask(0, v)", 0, 1, BAD, v -> x.ask(0, v));
    C.due("THE TRACE of the one before stays", x.trace(0), 23);
    C.due("up to its end", x.trace(3), 10);
    C.due("no REALM", new PenniesAway().ask(0, 0), BAD);
    C.due("no COINS", Texts.with("law 1;").ask(0, 1), BAD);
  }

  private static void traceNumbers() {
    C.sentence("29: Number i of THE TRACE; NONE");
    PenniesAway x = Texts.with(KINDS);
    Edge.taken(C, "trace(v) at first", -2, 17, x::trace);
    C.due("trace(0) at first", x.trace(0), NONE);
    x.ask(4, 0);
    C.due("the first", x.trace(0), 13);
    C.due("the last", x.trace(1), 10);
    Edge.refusedOutside(C, "trace(v)", 0, 1, NONE, x::trace);
    x.ask(3, 0);
    C.due("the first", x.trace(0), 14);
    C.due("the last", x.trace(6), 20);
    Edge.refusedOutside(C, "trace(v)", 0, 6, NONE, x::trace);
  }

  /** The longest chain of bodies that the document has is 7: the 16 are never reached, and hold them all. */
  private static void traceRoom() {
    C.sentence("part 4: each leaves its number in THE TRACE as it begins (the first 16)");
    PenniesAway x = Texts.with(KINDS);
    int longest = 0;
    for (int c = 0; c < 5; c++) {
      for (int what = 0; what < 2; what++) {
        x.ask(c, what);
        int n = 0;
        while (n < 16 && x.trace(n) != NONE) {
          n++;
        }
        longest = Math.max(longest, n);
        C.due("number 15 of ask(" + c + ", " + what + ")", x.trace(15), NONE);
        C.due("number 16, beyond the first 16", x.trace(16), NONE);
      }
    }
    C.due("the longest", longest, 7);
  }

  private static void traceAhead() {
    C.sentence("28: THE TRACE is empty ahead of it");
    PenniesAway x = Texts.with(KINDS);
    for (int n = 0; n < 10; n++) {
      x.ask(3, 0);
      C.due("a long one, ask " + n, x.trace(6), 20);
      C.due("no more than its own", x.trace(7), NONE);
      x.ask(0, 1);
      C.due("a short one", x.trace(1), 20);
      C.due("nothing of the one before", x.trace(2), NONE);
    }
    x.days(1);
    x.undo();
    Texts.read(x, "law 1;");
    C.due("other calls leave it, a new realm, too", x.trace(0), 21);
  }

  private static void counts() {
    C.sentence("30: 0 ROWS, 1 HOLDERS, 2 COINS, 3 the DAY, 4 ACTS that can be undone, 5 DUMB COINS, 6 LOST ones, 7 bytes on the tape");
    PenniesAway x = Texts.with("law 2;road 0 1 1;" + "holder 1;".repeat(6) + "coin forged 0 0;".repeat(2) + "coin old 0 0;".repeat(10));
    counted(x, "at first", 0, 6, 12, 0, 0, 0, 0, 0);
    for (int r = 0; r < 8; r++) {
      x.row(r, 0, 0);
    }
    x.feed(0, 8);
    x.send(0);
    x.send(1);
    x.days(1);
    counted(x, "two are lost", 8, 6, 12, 1, 3, 0, 2, 8);
    x.days(1);
    counted(x, "ten are dumb", 8, 6, 12, 2, 4, 10, 2, 8);
    for (int c = 2; c < 12; c++) {
      x.send(c);
    }
    x.days(1);
    counted(x, "all are lost, ten of them dumb", 8, 6, 12, 3, 15, 10, 12, 8);
    x.drop(3);
    x.undo();
    x.realm();
    counted(x, "undone", 7, 6, 12, 2, 14, 10, 2, 0);
    Texts.read(x, "law 1;");
    counted(x, "an empty realm", 7, 0, 0, 0, 0, 0, 0, 0);
    Texts.feed(x, " ".repeat(500));
    counted(x, "a full tape", 7, 0, 0, 0, 0, 0, 0, 500);
  }

  private static void counted(PenniesAway x, String when, int... due) {
    for (int what = 0; what < due.length; what++) {
      C.due(when + ": count(" + what + ")", x.count(what), due[what]);
    }
  }

  private static void countRefused() {
    C.sentence("30: BAD");
    PenniesAway x = new PenniesAway();
    Edge.refusedOutside(C, "no REALM: count(v)", 0, 7, BAD, x::count);
    Edge.taken(C, "no REALM: count(v)", 0, 7, x::count);
    Texts.read(x, KINDS);
    Edge.refusedOutside(C, "count(v)", 0, 7, BAD, x::count);
    Edge.taken(C, "count(v)", 0, 7, x::count);
  }
}
