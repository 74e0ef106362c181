import java.math.BigInteger;

/** The boundary cases of a REALM's ACTS: part 2 of the terms, promises 9 to 16, a sentence at a time. */
public final class EdgeActsTest {
  private static final Check C = new Check("EdgeActsTest");
  private static final int BAD = PenniesAway.BAD, STATE = PenniesAway.STATE, FULL = PenniesAway.FULL, NONE = PenniesAway.NONE;
  private static final String CHAIN = "road 0 1 90;road 1 2 90;road 2 3 90;road 3 4 90;road 4 5 90;road 5 6 90;road 6 7 90;";
  /** Coins: 0 silver, 1 forged, 2 old, 3 gold, of holders 0 and 1 of town 1; 4 silver of holder 2, to whom there is no way. */
  private static final String FIVE = "law 20;road 0 1 5;holder 1;holder 1;holder 4;"
      + "coin silver 0 0;coin forged 0 0;coin old 0 0;coin gold 1 0;coin silver 2 0;";

  public static void main(String[] args) {
    farFewest();
    farRefused();
    span();
    fallsDumb();
    toldTooOld();
    slackWithHolder();
    slackUnderWay();
    slackNone();
    dayOlder();
    dayLessToGo();
    dayRung();
    dayOfTheDumb();
    dayOfTheForged();
    dayBehindAll();
    dayOut();
    daysTogether();
    floodDraws();
    floodUnderWay();
    floodHeldUp();
    floodRefused();
    actsKept();
    actsWrapAround();
    actsUndone();
    passTown();
    passRefused();
    sendDays();
    sendRefused();
    sendAllSent();
    sendAllRefused();
    daysAnswer();
    daysRefused();
    lastDay();
    undo();
    coinParts();
    coinRefused();
    C.end();
  }

  private static void farFewest() {
    C.sentence("part 2: FAR from TOWN to TOWN: fewest DAYS by ROADS, either way round; NONE");
    PenniesAway x = Texts.with("law 1;" + CHAIN);
    for (int a = 0; a < 8; a++) {
      for (int b = 0; b < 8; b++) {
        C.due("the longest way, far(" + a + ", " + b + ")", x.far(a, b), 90 * Math.abs(a - b));
      }
    }
    PenniesAway y = Texts.with("law 1;" + CHAIN + "road 7 0 89;");
    C.due("round the other way", y.far(0, 7), 89);
    C.due("round the other way", y.far(7, 1), 179);
    C.due("far(0, 4)", y.far(0, 4), 359);
    PenniesAway z = Texts.with("law 1;road 0 1 10;road 1 2 10;road 0 2 21;road 4 5 3;");
    C.due("two roads are shorter than one", z.far(0, 2), 20);
    C.due("one road is as long", Texts.with("law 1;road 0 1 10;road 1 2 10;road 0 2 20;").far(2, 0), 20);
    C.due("one road is shorter than two", Texts.with("law 1;road 0 1 10;road 1 2 10;road 0 2 19;").far(2, 0), 19);
    C.due("no way", z.far(0, 4), NONE);
    C.due("no way back", z.far(5, 2), NONE);
    C.due("between two that cannot be reached", z.far(5, 4), 3);
    C.due("a town without a road, to itself", z.far(7, 7), 0);
    C.due("without any road", Texts.with("law 1;").far(0, 1), NONE);
    C.due("without any road, to itself", Texts.with("law 1;").far(0, 0), 0);
  }

  private static void farRefused() {
    C.sentence("16: BAD: TOWNS 0 to 7; STATE: no REALM (ahead of BAD)");
    PenniesAway x = Texts.with("law 1;road 0 7 2;");
    C.due("far(0, 7)", x.far(0, 7), 2);
    C.due("far(7, 0)", x.far(7, 0), 2);
    Edge.refusedOutside(C, "far(v, 0)", 0, 7, BAD, v -> x.far(v, 0));
    Edge.refusedOutside(C, "far(0, v)", 0, 7, BAD, v -> x.far(0, v));
    Edge.refusedOutside(C, "far(v, v)", 0, 7, BAD, v -> x.far(v, v));
    PenniesAway y = new PenniesAway();
    C.due("no REALM", y.far(0, 7), STATE);
    Edge.refusedOutside(C, "no REALM: far(v, 0)", 0, 7, STATE, v -> y.far(v, 0));
    Edge.refusedOutside(C, "no REALM: far(0, v)", 0, 7, STATE, v -> y.far(0, v));
  }

  private static void span() {
    C.sentence("part 2: SPAN: LEAVE; of an old one half of it (cut), of gold half as much more");
    int[] leaves = {1, 2, 3, 4, 7, 399, 400};
    int[] halves = {0, 1, 1, 2, 3, 199, 200};
    for (int i = 0; i < leaves.length; i++) {
      int leave = leaves[i];
      PenniesAway x = Texts.with("law " + leave + ";holder 1;coin silver 0 0;coin copper 0 0;coin forged 0 0;coin old 0 0;coin gold 0 0;");
      C.due("silver, law " + leave, x.coin(0, 5), leave);
      C.due("copper, law " + leave, x.coin(1, 5), leave);
      C.due("forged, law " + leave, x.coin(2, 5), leave);
      C.due("old, law " + leave, x.coin(3, 5), halves[i]);
      C.due("gold, law " + leave, x.coin(4, 5), leave + halves[i]);
    }
  }

  private static void fallsDumb() {
    C.sentence("part 2: It falls DUMB, once its AGE is above SPAN (a forged one never falls DUMB)");
    PenniesAway x = Texts.with("law 7;road 0 1 1;holder 1;coin silver 0 0;coin copper 0 0;coin gold 0 0;coin old 0 0;coin forged 0 0;");
    int[] fell = {0, 0, 0, 8, 0, 0, 0, 3, 0, 0, 4, 0};
    int dumb = 0;
    for (int day = 1; day <= fell.length; day++) {
      C.due("day " + day, x.days(1), fell[day - 1]);
      dumb += Integer.bitCount(fell[day - 1]);
      C.due("count(5) at day " + day, x.count(5), dumb);
    }
    Edge.live(x, 400);
    C.due("the forged one, old as it is", x.coin(4, 4), 0);
    C.due("its age", x.coin(4, 1), 412);
    C.due("count(5)", x.count(5), 4);
  }

  private static void toldTooOld() {
    C.sentence("part 2: a COIN told with an AGE at, below, above its SPAN");
    PenniesAway x = Texts.with("law 10;holder 1;coin silver 0 9;coin silver 0 10;coin silver 0 11;coin old 0 400;coin forged 0 400;");
    C.due("none at first", x.count(5), 0);
    C.due("the first day", x.days(1), 2 | 4 | 8);
    C.due("the second day", x.days(1), 1);
    C.due("the third day", x.days(1), 0);
  }

  private static void slackWithHolder() {
    C.sentence("part 2: SLACK: SPAN less its AGE, less FAR from its HOLDER's TOWN; below 0: it is LATE");
    PenniesAway x = Texts.with("law 20;road 0 1 5;road 1 2 3;holder 1;holder 2;coin silver 0 0;coin silver 0 14;coin silver 0 15;"
        + "coin silver 0 16;coin silver 1 12;coin silver 1 13;coin old 0 5;coin old 0 6;coin gold 0 25;coin gold 0 26;coin copper 0 400;");
    int[] due = {15, 1, 0, -1, 0, -1, 0, -1, 0, -1, -385};
    int late = 0;
    for (int c = 0; c < due.length; c++) {
      C.due("coin(" + c + ", 6)", x.coin(c, 6), due[c]);
      late |= due[c] < 0 ? 1 << c : 0;
    }
    C.due("late()", x.late(), late);
  }

  private static void slackUnderWay() {
    C.sentence("part 2: SLACK: what is left of its way home; one that is on its way out: FAR of its HOLDER's TOWN and what is left");
    PenniesAway x = Texts.with("law 20;road 0 1 5;holder 1;coin silver 0 12;coin silver 0 16;");
    x.send(0);
    x.send(1);
    for (int day = 0; day < 4; day++) {
      C.due("home, day " + day, x.coin(0, 6), 3);
      C.due("home and late, day " + day, x.coin(1, 6), -1);
      x.days(1);
    }
    C.due("flood(3): 1 and 7 days more", x.flood(3), 2);
    C.due("days to go", x.coin(0, 3), 1 + 50421 % 10);
    C.due("held up", x.coin(0, 6), 2);
    C.due("late by more", x.coin(1, 6), -1 - (x.coin(1, 3) - 1));
    x.undo();
    x.days(1);
    for (int left = 5; left >= 1; left--) {
      C.due("out, days to go", x.coin(0, 3), left);
      C.due("out, " + left + " to go", x.coin(0, 6), 10);
      x.days(1);
    }
    C.due("with its holder", x.coin(0, 6), 10);
    PenniesAway y = Texts.with("law 10;road 0 1 5;holder 1;coin silver 0 0;");
    y.send(0);
    y.days(5);
    C.due("out, no slack", y.coin(0, 6), 0);
    C.due("not late", y.late(), 0);
    y = Texts.with("law 9;road 0 1 5;holder 1;coin silver 0 0;");
    y.send(0);
    y.days(5);
    C.due("out, late", y.coin(0, 6), -1);
    C.due("late", y.late(), 1);
  }

  private static void slackNone() {
    C.sentence("part 2: SLACK: of a DUMB, a forged one NONE, and where there is no way");
    PenniesAway x = Texts.with("law 5;road 0 1 2;road 3 4 1;holder 1;holder 3;coin silver 0 5;coin forged 0 0;coin silver 1 0;coin silver 1 400;");
    C.due("not dumb yet", x.coin(0, 6), -2);
    C.due("forged", x.coin(1, 6), NONE);
    C.due("no way", x.coin(2, 6), NONE);
    C.due("no way, however old", x.coin(3, 6), NONE);
    C.due("late()", x.late(), 1);
    x.days(1);
    C.due("dumb", x.coin(0, 6), NONE);
    C.due("late()", x.late(), 0);
    x.send(0);
    x.send(1);
    C.due("dumb, under way", x.coin(0, 6), NONE);
    C.due("forged, under way", x.coin(1, 6), NONE);
    x.days(2);
    C.due("dumb, lost", x.coin(0, 6), NONE);
    C.due("forged, lost", x.coin(1, 6), NONE);
    C.due("late()", x.late(), 0);
  }

  private static void dayOlder() {
    C.sentence("part 2: A DAY: each COIN's AGE is 1 more (of one that is DUMB, or LOST, not)");
    PenniesAway x = Texts.with("law 8;road 0 1 3;holder 1;coin silver 0 0;coin silver 0 1;coin forged 0 2;coin old 0 4;coin forged 0 3;");
    x.send(1);
    x.send(2);
    ages(x, "day 0", 0, 1, 2, 4, 3);
    x.days(1);
    ages(x, "day 1: with a holder, and under way", 1, 2, 3, 5, 4);
    x.days(1);
    ages(x, "day 2", 2, 3, 4, 5, 5);
    x.days(1);
    ages(x, "day 3: rung, lost", 3, 0, 5, 5, 6);
    x.days(1);
    ages(x, "day 4: one on its way out, a lost one", 4, 1, 5, 5, 7);
    x.days(6);
    ages(x, "day 10: one that fell dumb at 9", 9, 7, 5, 5, 13);
  }

  private static void ages(PenniesAway x, String when, int... due) {
    for (int c = 0; c < due.length; c++) {
      C.due(when + ": coin(" + c + ", 1)", x.coin(c, 1), due[c]);
    }
  }

  private static void dayLessToGo() {
    C.sentence("part 2: each UNDER WAY has a DAY less to go; with none it is there");
    PenniesAway x = Texts.with("law 400;road 0 1 3;holder 1;coin silver 0 0;coin silver 0 0;");
    x.send(0);
    int[] where = {1, 1, 2, 2, 2, 0, 0};
    int[] left = {2, 1, 3, 2, 1, 0, 0};
    for (int day = 1; day <= 7; day++) {
      x.days(1);
      C.due("where, day " + day, x.coin(0, 2), where[day - 1]);
      C.due("days to go, day " + day, x.coin(0, 3), left[day - 1]);
      C.due("one with a holder has none to go", x.coin(1, 3), 0);
      C.due("and stays", x.coin(1, 2), 0);
    }
    PenniesAway y = Texts.with("law 400;road 0 1 1;holder 1;coin silver 0 9;");
    C.due("the shortest way", y.send(0), 1);
    y.days(1);
    Edge.coin(C, "home in a day, out at once", y, 0, 0, 0, 2, 1, 0);
    y.days(1);
    Edge.coin(C, "out in a day", y, 0, 0, 1, 0, 0, 0);
  }

  private static void dayRung() {
    C.sentence("part 2: at home it is rung: its AGE is 0, and it goes out again at once to its HOLDER (FAR DAYS)");
    PenniesAway x = Texts.with("law 50;road 0 1 4;road 1 2 2;holder 1;holder 2;holder 2;coin silver 0 30;coin old 1 10;coin gold 2 7;");
    x.pass(1, 2);
    for (int c = 0; c < 3; c++) {
      x.send(c);
    }
    x.flood(1);
    C.due("held up", x.coin(0, 3), 4 + 7);
    C.due("held up", x.coin(1, 3), 6 + 9);
    C.due("held up", x.coin(2, 3), 6 + 3);
    C.due("days(9)", x.days(9), 0);
    Edge.coin(C, "the way out is as long as FAR, though it was held up", x, 2, 2, 0, 2, 6, 0);
    C.due("days(2)", x.days(2), 0);
    Edge.coin(C, "home", x, 0, 0, 0, 2, 4, 0);
    C.due("days(4)", x.days(4), 0);
    Edge.coin(C, "home, of the holder to whom it was passed", x, 1, 2, 0, 2, 6, 0);
    Edge.coin(C, "with its holder again", x, 2, 2, 6, 0, 0, 0);
    Edge.coin(C, "with its holder again", x, 0, 0, 4, 0, 0, 0);
  }

  private static void dayOfTheDumb() {
    C.sentence("part 2: at home it is rung, if it is not DUMB; a DUMB one is kept by the MINT: it is LOST");
    PenniesAway x = Texts.with("law 10;road 0 1 3;holder 1;coin silver 0 10;coin silver 0 8;");
    C.due("days(1)", x.days(1), 1);
    C.due("a dumb one is sent", x.send(0), 3);
    C.due("days(2)", x.days(2), 2);
    Edge.coin(C, "dumb, under way", x, 0, 0, 11, 1, 1, 1);
    C.due("count(6)", x.count(6), 0);
    C.due("days(1)", x.days(1), 0);
    Edge.coin(C, "dumb, kept", x, 0, 0, 11, 3, 0, 1);
    C.due("count(6)", x.count(6), 1);
    C.due("count(5)", x.count(5), 2);
    Edge.live(x, 50);
    Edge.coin(C, "it stays there", x, 0, 0, 11, 3, 0, 1);
    C.sentence("part 2: one that falls DUMB on its way home is LOST, the day ahead of its coming, too");
    PenniesAway y = Texts.with("law 10;road 0 1 3;holder 1;coin silver 0 8;coin silver 0 9;");
    y.send(0);
    y.send(1);
    C.due("days(2): 1 falls dumb at AGE 11", y.days(2), 2);
    C.due("days(1): 0 is rung at AGE 11", y.days(1), 0);
    Edge.coin(C, "in time by a day", y, 0, 0, 0, 2, 3, 0);
    Edge.coin(C, "too late by a day", y, 1, 0, 11, 3, 0, 1);
  }

  private static void dayOfTheForged() {
    C.sentence("part 2: a forged one is kept by the MINT: it is LOST");
    PenniesAway x = Texts.with("law 10;road 0 1 2;holder 1;coin forged 0 0;coin forged 0 400;");
    x.send(0);
    x.send(1);
    x.days(1);
    Edge.coin(C, "under way", x, 0, 0, 1, 1, 1, 0, 10, NONE, 0);
    x.days(1);
    Edge.coin(C, "lost, not rung, not dumb", x, 0, 0, 2, 3, 0, 0, 10, NONE, 0);
    Edge.coin(C, "lost, not rung, not dumb", x, 1, 0, 402, 3, 0, 0, 10, NONE, 0);
    C.due("count(5)", x.count(5), 0);
    C.due("count(6)", x.count(6), 2);
    x.days(99);
    Edge.coin(C, "lost, no older, never dumb", x, 0, 0, 2, 3, 0, 0, 10, NONE, 0);
  }

  private static void dayBehindAll() {
    C.sentence("part 2: Behind all that those fall DUMB whose AGE is above SPAN");
    PenniesAway x = Texts.with("law 1;road 0 1 1;holder 1;coin old 0 400;coin silver 0 400;coin old 0 0;coin silver 0 1;");
    x.send(0);
    x.send(1);
    C.due("two are rung in time, however old; two fall dumb", x.days(1), 4 | 8);
    Edge.coin(C, "rung, a SPAN of 0", x, 0, 0, 0, 2, 1, 0, 0);
    Edge.coin(C, "rung", x, 1, 0, 0, 2, 1, 0, 1);
    C.due("one of a SPAN of 0 falls dumb the next day, as it comes", x.days(1), 1);
    Edge.coin(C, "with its holder, dumb", x, 0, 0, 1, 0, 0, 1, 0);
    Edge.coin(C, "with its holder", x, 1, 0, 1, 0, 0, 0, 1);
    C.due("days(1)", x.days(1), 2);
  }

  private static void dayOut() {
    C.sentence("part 2: out again to its HOLDER: one that falls DUMB on its way out comes to him all the same");
    PenniesAway x = Texts.with("law 4;road 0 1 6;holder 1;holder 1;coin silver 0 0;coin gold 0 0;");
    x.send(0);
    x.send(1);
    C.due("days(6)", x.days(6), 1);
    C.due("the dumb one is lost", x.coin(0, 2), 3);
    Edge.coin(C, "gold, at its SPAN, is rung", x, 1, 0, 0, 2, 6, 0, 6);
    C.due("days(6)", x.days(6), 0);
    Edge.coin(C, "gold, at its SPAN, with its holder", x, 1, 0, 6, 0, 0, 0, 6);
    PenniesAway y = Texts.with("law 3;road 0 1 4;holder 1;holder 1;coin gold 0 0;coin silver 0 400;");
    y.send(0);
    C.due("days(4)", y.days(4), 2);
    C.due("days(3)", y.days(3), 0);
    C.due("flood(1): 7 days more", y.flood(1), 1);
    C.due("days(1)", y.days(1), 0);
    C.due("days(1)", y.days(1), 1);
    Edge.coin(C, "dumb, out", y, 0, 0, 5, 2, 6, 1);
    C.due("days(6)", y.days(6), 0);
    Edge.coin(C, "dumb, with its holder", y, 0, 0, 5, 0, 0, 1);
    C.due("it can be passed", y.pass(0, 1), 0);
    C.due("it can be sent", y.send(0), 4);
    y.days(4);
    Edge.coin(C, "and is lost", y, 0, 1, 5, 3, 0, 1);
  }

  private static void daysTogether() {
    C.sentence("part 2: n DAYS go by, one behind the other");
    for (int n = 1; n <= 99; n += 7) {
      PenniesAway x = Texts.with(Texts.SMALL);
      PenniesAway y = Texts.with(Texts.SMALL);
      for (int c = 0; c < 5; c++) {
        x.send(c);
        y.send(c);
      }
      int fell = 0;
      for (int d = 0; d < n; d++) {
        fell |= y.days(1);
      }
      C.due("days(" + n + ")", x.days(n), fell);
      C.due("count(3)", x.count(3), n);
      for (int c = 0; c < 6; c++) {
        for (int what = 0; what < 8; what++) {
          C.due(n + " days: coin(" + c + ", " + what + ")", x.coin(c, what), y.coin(c, what));
        }
      }
      C.due("one act", x.count(4), 6);
    }
  }

  private static void floodDraws() {
    C.sentence("part 2: a DRAW of 10 DAYS more: X becomes the rest of (X times 16807) by 2147483647; its rest by 10");
    int[] seeds = {1, 2, 10, 127773, 127774, 500000, 999998, 999999};
    for (int seed : seeds) {
      PenniesAway x = Texts.with(Edge.TWELVE);
      for (int c = 0; c < 12; c++) {
        x.send(c);
      }
      BigInteger drawn = BigInteger.valueOf(seed);
      int held = 0;
      int[] more = new int[12];
      for (int c = 0; c < 12; c++) {
        drawn = drawn.multiply(BigInteger.valueOf(16807)).mod(BigInteger.valueOf(2147483647));
        more[c] = drawn.mod(BigInteger.TEN).intValue();
        held += more[c] > 0 ? 1 : 0;
      }
      C.due("flood(" + seed + ")", x.flood(seed), held);
      for (int c = 0; c < 12; c++) {
        C.due("flood(" + seed + "): coin " + c, x.coin(c, 3), 5 + more[c]);
      }
      x.flood(seed);
      C.due("the same again, from the SEED on", x.coin(11, 3), 5 + 2 * more[11]);
    }
  }

  private static void floodUnderWay() {
    C.sentence("part 2: A FLOOD: for each COIN that is UNDER WAY, in order");
    PenniesAway x = Texts.with("law 90;road 0 1 5;holder 1;coin silver 0 0;coin forged 0 0;coin silver 0 0;coin silver 0 0;coin silver 0 0;");
    x.send(1);
    x.send(3);
    x.days(5);
    x.send(4);
    // coin 0 is with its holder, 1 is lost, 2 is with its holder, 3 is out, 4 is going home
    C.due("flood(1): two draws", x.flood(1), 2);
    C.due("with its holder", x.coin(0, 3), 0);
    C.due("lost", x.coin(1, 3), 0);
    C.due("with its holder", x.coin(2, 3), 0);
    C.due("out: the first draw", x.coin(3, 3), 5 + 16807 % 10);
    C.due("home: the second draw", x.coin(4, 3), 5 + 282475249 % 10);
    C.due("no day goes by", x.count(3), 5);
    C.due("none is older", x.coin(3, 1), 0);
    C.due("where they are", x.coin(3, 2) * 10 + x.coin(4, 2), 21);
    x.days(11);
    C.due("a day before it comes", x.coin(3, 3), 1);
    x.days(1);
    Edge.coin(C, "out, held up 7 days", x, 3, 0, 12, 0, 0, 0);
  }

  private static void floodHeldUp() {
    C.sentence("13: how many COINS it held up (1 DAY and more)");
    PenniesAway x = Texts.with("law 90;road 0 1 5;holder 1;coin silver 0 0;coin silver 0 0;");
    C.due("none is under way", x.flood(1), 0);
    C.due("it is an ACT", x.count(4), 1);
    x.send(0);
    C.due("flood(10): a draw of 0", x.flood(10), 0);
    C.due("not held up", x.coin(0, 3), 5);
    C.due("it is an ACT", x.count(4), 3);
    C.due("flood(3): a draw of 1", x.flood(3), 1);
    C.due("held up", x.coin(0, 3), 6);
    C.due("flood(7): a draw of 9", x.flood(7), 1);
    C.due("held up more", x.coin(0, 3), 15);
    x.send(1);
    C.due("flood(10): 0, then 1 or more", x.flood(10), 1);
  }

  private static void floodRefused() {
    C.sentence("13: SEED 1 to 999999. BAD; STATE: no REALM (ahead of BAD)");
    PenniesAway x = Texts.with(Edge.TWELVE);
    x.send(0);
    Edge.refusedOutside(C, "flood(v)", 1, 999999, BAD, x::flood);
    C.due("count(4)", x.count(4), 1);
    C.due("flood(1)", x.flood(1), 1);
    C.due("flood(999999)", x.flood(999999), 1);
    C.due("count(4)", x.count(4), 3);
    PenniesAway y = new PenniesAway();
    C.due("no REALM", y.flood(1), STATE);
    Edge.refusedOutside(C, "no REALM: flood(v)", 1, 999999, STATE, y::flood);
  }

  private static void actsKept() {
    C.sentence("part 2: ACTS (24 at most are kept, of more the oldest is forgotten)");
    PenniesAway x = Texts.with("law 400;holder 1;coin gold 0 0;");
    for (int act = 1; act <= 26; act++) {
      x.days(act);
      C.due("count(4) behind act " + act, x.count(4), Math.min(act, 24));
    }
    for (int left = 23; left >= 0; left--) {
      C.due("undo()", x.undo(), left);
    }
    C.due("the 25th from the end is forgotten", x.undo(), STATE);
    C.due("acts 1 and 2 stay", x.count(3), 3);
    PenniesAway y = Texts.with("law 400;holder 1;coin gold 0 0;");
    for (int act = 1; act <= 24; act++) {
      y.days(1);
    }
    for (int left = 23; left >= 0; left--) {
      C.due("24 acts are all kept: undo()", y.undo(), left);
    }
    C.due("back at first", y.count(3), 0);
  }

  private static void actsWrapAround() {
    C.sentence("part 2: each can be undone, the latest first, round the end of what is kept");
    PenniesAway x = Texts.with("law 400;holder 1;coin gold 0 0;");
    for (int act = 0; act < 30; act++) {
      x.days(1);
    }
    for (int n = 0; n < 10; n++) {
      C.due("undo()", x.undo(), 23 - n);
      C.due("day", x.count(3), 29 - n);
    }
    for (int act = 1; act <= 40; act++) {
      x.days(2);
      C.due("count(4)", x.count(4), Math.min(14 + act, 24));
    }
    for (int n = 1; n <= 24; n++) {
      C.due("undo()", x.undo(), 24 - n);
      C.due("day", x.count(3), 100 - 2 * n);
    }
    C.due("undo()", x.undo(), STATE);
    x.days(3);
    C.due("one anew", x.count(4), 1);
    C.due("undo()", x.undo(), 0);
    C.due("day", x.count(3), 52);
  }

  private static void actsUndone() {
    C.sentence("part 2: a COIN is PASSED; it is SENT home; n DAYS go by; a FLOOD: each can be undone");
    PenniesAway x = Texts.with(FIVE);
    C.due("pass(0, 1)", x.pass(0, 1), 0);
    C.due("send(0)", x.send(0), 5);
    C.due("send(1)", x.send(1), 5);
    C.due("flood(1)", x.flood(1), 2);
    C.due("days(30)", x.days(30), 1 << 2 | 1 << 4);
    C.due("day, dumb, lost", x.count(3) * 100 + x.count(5) * 10 + x.count(6), 3021);
    C.due("undo days", x.undo(), 4);
    C.due("day, dumb, lost", x.count(3) * 100 + x.count(5) * 10 + x.count(6), 0);
    Edge.coin(C, "held up", x, 0, 1, 0, 1, 12, 0);
    Edge.coin(C, "held up", x, 1, 0, 0, 1, 14, 0);
    Edge.coin(C, "not dumb", x, 2, 0, 0, 0, 0, 0);
    C.due("undo flood", x.undo(), 3);
    Edge.coin(C, "not held up", x, 0, 1, 0, 1, 5, 0);
    Edge.coin(C, "not held up", x, 1, 0, 0, 1, 5, 0);
    C.due("undo send", x.undo(), 2);
    Edge.coin(C, "with its holder", x, 1, 0, 0, 0, 0, 0);
    Edge.coin(C, "under way", x, 0, 1, 0, 1, 5, 0);
    C.due("undo send", x.undo(), 1);
    Edge.coin(C, "with its holder", x, 0, 1, 0, 0, 0, 0);
    C.due("undo pass", x.undo(), 0);
    Edge.coin(C, "with whom it was", x, 0, 0, 0, 0, 0, 0);
  }

  private static void passTown() {
    C.sentence("9: A COIN is PASSED to another HOLDER of the same TOWN: who had it");
    PenniesAway x = Texts.with("law 9;road 0 7 1;holder 7;holder 1;holder 7;holder 1;holder 7;holder 7;" + "coin old 0 0;".repeat(11) + "coin old 5 1;");
    C.due("the first to the last", x.pass(0, 5), 0);
    C.due("its holder", x.coin(0, 0), 5);
    C.due("and back", x.pass(0, 0), 5);
    C.due("its holder", x.coin(0, 0), 0);
    C.due("coin 11", x.pass(11, 4), 5);
    C.due("others stay", x.coin(10, 0), 0);
    C.due("each is an act", x.count(4), 3);
    C.due("another TOWN", x.pass(0, 1), STATE);
    C.due("another TOWN", x.pass(0, 3), STATE);
    x.days(99);
    C.due("a dumb one", x.coin(0, 4), 1);
    C.due("is passed, too", x.pass(0, 2), 0);
  }

  private static void passRefused() {
    C.sentence("9: BAD: his own, too; STATE: it is not with its HOLDER, or he is in another TOWN");
    PenniesAway x = Texts.with(FIVE);
    Edge.refusedOutside(C, "pass(v, 1)", 0, 4, BAD, v -> x.pass(v, 1));
    Edge.refusedOutside(C, "pass(0, v)", 0, 2, BAD, v -> x.pass(0, v));
    C.due("his own", x.pass(0, 0), BAD);
    C.due("his own", x.pass(4, 2), BAD);
    C.due("another TOWN", x.pass(0, 2), STATE);
    C.due("another TOWN", x.pass(4, 0), STATE);
    x.send(0);
    x.send(1);
    C.due("home", x.pass(0, 1), STATE);
    C.due("home, another TOWN", x.pass(0, 2), STATE);
    C.due("home, his own: BAD ahead of STATE", x.pass(0, 0), BAD);
    C.due("home, no such HOLDER: BAD ahead of STATE", x.pass(0, 3), BAD);
    C.due("home, no such HOLDER: BAD ahead of STATE", x.pass(0, -1), BAD);
    x.days(5);
    C.due("out", x.pass(0, 1), STATE);
    C.due("lost", x.pass(1, 1), STATE);
    C.due("lost, his own: BAD ahead of STATE", x.pass(1, 0), BAD);
    x.days(5);
    C.due("with him again", x.pass(0, 1), 0);
    C.due("acts: send, send, days, days, pass", x.count(4), 5);
    PenniesAway y = new PenniesAway();
    C.due("no REALM: no such COIN", y.pass(0, 0), BAD);
    Texts.read(y, "law 1;holder 1;holder 1;");
    C.due("no COINS", y.pass(0, 1), BAD);
  }

  private static void sendDays() {
    C.sentence("10: A COIN is SENT home: how many DAYS it needs");
    PenniesAway x = Texts.with("law 1;" + CHAIN + "holder 7;holder 1;coin gold 0 0;coin forged 1 0;coin silver 1 400;");
    C.due("the longest way", x.send(0), 630);
    Edge.coin(C, "sent", x, 0, 0, 0, 1, 630, 0);
    C.due("a forged one", x.send(1), 90);
    C.due("one that is late", x.send(2), 90);
    Edge.live(x, 629);
    C.due("a day before it comes", x.coin(0, 3), 1);
    x.days(1);
    C.due("dumb on its way, lost", x.coin(0, 2), 3);
    PenniesAway y = Texts.with("law 1;" + "road 0 1 1;" + "holder 1;coin gold 0 9;");
    y.days(1);
    C.due("a dumb one", y.send(0), 1);
    C.due("no more than an act", y.count(4), 2);
  }

  private static void sendRefused() {
    C.sentence("10: BAD; STATE: it is not with its HOLDER, or there is no way");
    PenniesAway x = Texts.with(FIVE);
    Edge.refusedOutside(C, "send(v)", 0, 4, BAD, x::send);
    C.due("no way", x.send(4), STATE);
    C.due("send(0)", x.send(0), 5);
    C.due("send(1)", x.send(1), 5);
    C.due("home", x.send(0), STATE);
    x.days(5);
    C.due("out", x.send(0), STATE);
    C.due("lost", x.send(1), STATE);
    C.due("acts", x.count(4), 3);
    x.days(5);
    C.due("with its holder again", x.send(0), 5);
    PenniesAway y = new PenniesAway();
    C.due("no REALM: no such COIN", y.send(0), BAD);
    PenniesAway z = Texts.with(Edge.TWELVE);
    C.due("coin 11", z.send(11), 5);
    C.due("coin 12", z.send(12), BAD);
  }

  private static void sendAllSent() {
    C.sentence("11: those of n ITEMS (1 to 12) from i on that can be (others are passed over): how many");
    for (int lane = 0; lane < 3; lane++) {
      PenniesAway x = Texts.with(Edge.TWELVE);
      Edge.lay(x, 7, lane, 11, 10, 9, 8, 7, 6, 5, 4, 3, 2, 1, 0, 0, 99);
      C.due("1", x.sendAll(7, 2, 1), 1);
      C.due("coin 9", x.coin(9, 2), 1);
      C.due("12, one is under way", x.sendAll(7, 0, 12), 11);
      C.due("each COIN is an ACT", x.count(4), 12);
      C.due("12, none can be", x.sendAll(7, 1, 12), 0);
      C.due("no ACT", x.count(4), 12);
      C.due("undo() of the last, coin 0", x.undo(), 11);
      C.due("coin 0", x.coin(0, 2), 0);
      C.due("coin 1", x.coin(1, 2), 1);
      C.due("the same twice is sent once", x.sendAll(7, 11, 2), 1);
      C.due("count(4)", x.count(4), 12);
    }
    PenniesAway y = Texts.with(FIVE);
    Edge.lay(y, 0, 0, 4, 3, 1, 2, 0);
    y.send(3);
    C.due("one without a way, one under way", y.sendAll(0, 0, 5), 3);
    C.due("the coin without a way", y.coin(4, 2), 0);
    PenniesAway z = Texts.with(Edge.TWELVE);
    for (int act = 0; act < 20; act++) {
      z.flood(1);
    }
    Edge.lay(z, 0, 2, 0, 1, 2, 3, 4, 5, 6, 7, 8, 9, 10, 11);
    C.due("all twelve", z.sendAll(0, 0, 12), 12);
    C.due("the oldest acts are forgotten", z.count(4), 24);
    C.due("undo()", z.undo(), 23);
    C.due("coin 11", z.coin(11, 2), 0);
    C.due("coin 10", z.coin(10, 2), 1);
  }

  private static void sendAllRefused() {
    C.sentence("11: BAD: ROW, n; STATE: no REALM (ahead of BAD); NULL; PLACE; then BAD: an ITEM that is no COIN");
    PenniesAway y = new PenniesAway();
    C.due("STATE ahead of BAD ROW", y.sendAll(8, 0, 1), STATE);
    C.due("STATE ahead of BAD n", y.sendAll(0, 0, 0), STATE);
    C.due("STATE ahead of NULL", y.sendAll(0, 0, 1), STATE);
    y.row(0, 0, 1);
    C.due("STATE ahead of PLACE", y.sendAll(0, 1, 1), STATE);
    PenniesAway x = Texts.with(FIVE);
    Edge.lay(x, 0, 2, 0, 1, 2, 3, 4, 5, -1, 0, 1, 2, 3, 4, 0, 1);
    Edge.refusedOutside(C, "sendAll(v, 0, 1)", 0, 7, BAD, v -> x.sendAll(v, 0, 1));
    Edge.refusedOutside(C, "sendAll(0, 0, v)", 1, 12, BAD, v -> x.sendAll(0, 0, v));
    Edge.refusedOutside(C, "BAD n ahead of NULL", 1, 12, BAD, v -> x.sendAll(1, 0, v));
    Edge.refusedOutside(C, "BAD n ahead of PLACE", 1, 12, BAD, v -> x.sendAll(0, -1, v));
    C.due("NULL", x.sendAll(1, 0, 1), Texts.NULL);
    C.due("NULL ahead of PLACE", x.sendAll(1, -1, 1), Texts.NULL);
    Edge.refusedOutside(C, "sendAll(0, v, 1)", 0, 13, Texts.PLACE, v -> x.sendAll(0, v, 1));
    Edge.refusedOutside(C, "sendAll(0, v, 12)", 0, 2, Texts.PLACE, v -> x.sendAll(0, v, 12));
    C.due("PLACE ahead of no COIN", x.sendAll(0, 6, 9), Texts.PLACE);
    x.row(2, 0, 0);
    C.due("an empty row", x.sendAll(2, 0, 1), Texts.PLACE);
    C.due("the first that is no COIN", x.sendAll(0, 5, 1), BAD);
    C.due("one below 0", x.sendAll(0, 6, 1), BAD);
    C.due("the last is no COIN: none is sent", x.sendAll(0, 0, 6), BAD);
    C.due("the first is no COIN", x.sendAll(0, 6, 8), BAD);
    C.due("of 12 that are there", x.sendAll(0, 2, 12), BAD);
    C.due("none was sent", x.count(4), 0);
    C.due("coin 0", x.coin(0, 2), 0);
    C.due("those ahead alone can be", x.sendAll(0, 0, 5), 4);
    Texts.read(x, "law 1;");
    C.due("no COINS, all ITEMS are none", x.sendAll(0, 0, 1), BAD);
  }

  private static void daysAnswer() {
    C.sentence("12: COINS (bits) that fell DUMB in them");
    PenniesAway x = Texts.with("law 400;holder 1;" + "coin silver 0 400;coin gold 0 400;".repeat(6));
    C.due("every other one", x.days(1), 0x555);
    C.due("they fell before", x.days(99), 0);
    C.due("days(99)", x.days(99), 0);
    C.due("days(1): at 600", x.days(1), 0);
    C.due("days(1)", x.days(1), 0xaaa);
    C.due("all of them", Texts.with("law 1;holder 1;" + "coin old 0 0;".repeat(12)).days(1), 4095);
    C.due("no coins", Texts.with("law 1;").days(99), 0);
  }

  private static void daysRefused() {
    C.sentence("12: n DAYS (1 to 99). BAD; STATE: no REALM (ahead of BAD)");
    PenniesAway x = Texts.with(FIVE);
    Edge.refusedOutside(C, "days(v)", 1, 99, BAD, x::days);
    C.due("no day went by", x.count(3), 0);
    C.due("no ACT", x.count(4), 0);
    C.due("days(1)", x.days(1), 0);
    C.due("count(3)", x.count(3), 1);
    x.days(99);
    C.due("count(3)", x.count(3), 100);
    PenniesAway y = new PenniesAway();
    C.due("no REALM", y.days(1), STATE);
    Edge.refusedOutside(C, "no REALM: days(v)", 1, 99, STATE, y::days);
  }

  private static void lastDay() {
    C.sentence("12: FULL: it would be beyond DAY 9999");
    PenniesAway x = Texts.with("law 1;holder 1;coin forged 0 0;");
    Edge.live(x, 9900);
    C.due("count(3)", x.count(3), 9900);
    C.due("up to the last", x.days(99), 0);
    C.due("count(3)", x.count(3), 9999);
    C.due("one beyond", x.days(1), FULL);
    C.due("BAD ahead of FULL", x.days(0), BAD);
    C.due("BAD ahead of FULL", x.days(100), BAD);
    C.due("count(3)", x.count(3), 9999);
    C.due("coin(0, 1)", x.coin(0, 1), 9999);
    C.due("no ACT of it: undo()", x.undo(), 23);
    C.due("count(3)", x.count(3), 9900);
    C.due("days(1)", x.days(1), 0);
    C.due("days(99): one beyond", x.days(99), FULL);
    C.due("count(3)", x.count(3), 9901);
    C.due("days(98)", x.days(98), 0);
    C.due("other acts can be", x.flood(1), 0);
  }

  private static void undo() {
    C.sentence("14: how many can be undone yet. STATE: none");
    PenniesAway x = new PenniesAway();
    C.due("no REALM", x.undo(), STATE);
    Texts.read(x, FIVE);
    C.due("none yet", x.undo(), STATE);
    x.days(1);
    C.due("the last one", x.undo(), 0);
    C.due("none", x.undo(), STATE);
    C.due("none, again", x.undo(), STATE);
    x.days(1);
    x.days(1);
    C.due("undo()", x.undo(), 1);
    C.due("count(4)", x.count(4), 1);
    C.due("count(3)", x.count(3), 1);
  }

  private static void coinParts() {
    C.sentence("15: 0 HOLDER, 1 AGE, 2 how it is, 3 DAYS that it has to go yet, 4 whether DUMB, 5 SPAN, 6 SLACK (NONE), 7 WORTH");
    PenniesAway x = Texts.with("law 20;road 0 1 5;holder 1;holder 1;coin silver 1 3;coin forged 0 0;coin old 0 10;coin gold 1 0;");
    Edge.coin(C, "with him", x, 0, 1, 3, 0, 0, 0, 20, 12, 60);
    x.send(0);
    x.send(1);
    Edge.coin(C, "home", x, 0, 1, 3, 1, 5, 0, 20, 12, 60);
    x.days(5);
    Edge.coin(C, "out", x, 0, 1, 0, 2, 5, 0, 20, 10, 50);
    Edge.coin(C, "lost", x, 1, 0, 5, 3, 0, 0, 20, NONE, 0);
    Edge.coin(C, "dumb", x, 2, 0, 11, 0, 0, 1, 10, NONE, 0);
    Edge.coin(C, "gold", x, 3, 1, 5, 0, 0, 0, 30, 20, 66);
  }

  private static void coinRefused() {
    C.sentence("15: BAD");
    PenniesAway x = Texts.with(Edge.TWELVE);
    Edge.taken(C, "coin(v, 0)", 0, 11, v -> x.coin(v, 0));
    Edge.taken(C, "coin(11, v)", 0, 7, v -> x.coin(11, v));
    Edge.refusedOutside(C, "coin(v, 0)", 0, 11, BAD, v -> x.coin(v, 0));
    Edge.refusedOutside(C, "coin(0, v)", 0, 7, BAD, v -> x.coin(0, v));
    Edge.refusedOutside(C, "coin(v, v)", 0, 11, BAD, v -> x.coin(v, v));
    PenniesAway y = new PenniesAway();
    for (int what = -1; what <= 8; what++) {
      C.due("no REALM: coin(0, " + what + ")", y.coin(0, what), BAD);
    }
    Texts.read(y, "law 1;holder 1;");
    C.due("no COINS", y.coin(0, 0), BAD);
  }
}
