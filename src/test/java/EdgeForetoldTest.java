import java.math.BigInteger;
import java.util.List;

/** The boundary cases of what is FORETOLD: part 3 of the terms, promises 17 to 25, a sentence at a time. */
public final class EdgeForetoldTest {
  private static final Check C = new Check("EdgeForetoldTest");
  private static final int BAD = PenniesAway.BAD, STATE = PenniesAway.STATE, NONE = PenniesAway.NONE;

  public static void main(String[] args) {
    worth();
    late();
    mustGo();
    mustGoRefused();
    save();
    saveTies();
    saveRefused();
    tourDays();
    tourOrder();
    tourNoWay();
    tourSaves();
    tourRefused();
    mintTown();
    mintNearer();
    mintUnderWay();
    mintRefused();
    sounds();
    soundsWithHolders();
    soundsAsLived();
    soundsRefused();
    earOdds();
    earCannotBe();
    earRefused();
    image();
    imageRefused();
    restore();
    restoreWhole();
    restoreRefused();
    C.end();
  }

  private static void worth() {
    C.sentence("part 3: WORTH of a COIN: 100 times its SLACK by SPAN, 0 at least; 0 where that is NONE");
    PenniesAway x = Texts.with("law 30;road 0 1 1;holder 1;holder 2;coin silver 0 0;coin silver 0 28;coin silver 0 29;coin silver 0 30;"
        + "coin silver 0 19;coin silver 0 400;coin forged 0 0;coin silver 1 0;coin old 0 13;coin gold 0 0;");
    int[] due = {96, 3, 0, 0, 33, 0, 0, 0, 6, 97};
    for (int c = 0; c < due.length; c++) {
      C.due("coin(" + c + ", 7)", x.coin(c, 7), due[c]);
    }
    C.due("the greatest", Texts.with("law 400;road 0 1 1;holder 1;coin gold 0 0;").coin(0, 7), 99);
    C.due("less than a hundredth is cut", Texts.with("law 400;road 0 1 1;holder 1;coin silver 0 396;").coin(0, 7), 0);
    C.due("a hundredth", Texts.with("law 400;road 0 1 1;holder 1;coin silver 0 395;").coin(0, 7), 1);
    C.due("a SPAN of 0", Texts.with("law 1;road 0 1 1;holder 1;coin old 0 0;").coin(0, 7), 0);
    C.due("a SPAN of 0, no way", Texts.with("law 1;holder 1;coin old 0 0;").coin(0, 7), 0);
    x.days(99);
    C.due("dumb", x.coin(0, 7), 0);
  }

  private static void late() {
    C.sentence("part 3: LATE: COINS (bits) with a SLACK below 0. STATE: no REALM");
    C.due("no REALM", new PenniesAway().late(), STATE);
    C.due("no COINS", Texts.with("law 1;").late(), 0);
    String road = "law 10;road 0 1 5;holder 1;";
    C.due("a SLACK of 1", Texts.with(road + "coin silver 0 4;".repeat(12)).late(), 0);
    C.due("a SLACK of 0", Texts.with(road + "coin silver 0 5;".repeat(12)).late(), 0);
    C.due("a SLACK of -1", Texts.with(road + "coin silver 0 6;".repeat(12)).late(), 4095);
    C.due("the last alone", Texts.with(road + "coin silver 0 5;".repeat(11) + "coin silver 0 6;").late(), 2048);
    C.due("forged ones", Texts.with(road + "coin forged 0 400;".repeat(12)).late(), 0);
    C.due("no way", Texts.with("law 10;holder 1;coin silver 0 400;").late(), 0);
  }

  private static void mustGo() {
    C.sentence("part 3: MUST GO in n DAYS: COINS (bits) that are with HOLDERS, with a SLACK of 0 or more, and below n");
    PenniesAway x = Texts.with("law 400;road 0 1 1;holder 1;holder 2;coin gold 0 198;coin gold 0 199;coin gold 0 200;"
        + "coin silver 0 400;coin silver 0 399;coin silver 0 398;coin silver 0 397;coin forged 0 0;coin silver 1 0;coin silver 0 397;");
    // slacks: 401, 400, 399, -1, 0, 1, 2, NONE, NONE, 2
    C.due("mustGo(1): 0 alone", x.mustGo(1), 1 << 4);
    C.due("mustGo(2): 0 and 1", x.mustGo(2), 1 << 4 | 1 << 5);
    int three = 1 << 4 | 1 << 5 | 1 << 6 | 1 << 9;
    C.due("mustGo(3)", x.mustGo(3), three);
    C.due("mustGo(399): 399 not yet", x.mustGo(399), three);
    C.due("mustGo(400): 399, but no more", x.mustGo(400), three | 1 << 2);
    x.send(6);
    C.due("one under way home", x.mustGo(3), three & ~(1 << 6));
    x.days(1);
    C.due("out", x.coin(6, 2), 2);
    C.due("one under way out", x.mustGo(400) >> 6 & 1, 0);
    C.due("those whose SLACK was 0 are late", x.mustGo(400) >> 4 & 1, 0);
    C.due("those whose SLACK was 1", x.mustGo(1) >> 5 & 1, 1);
    C.due("a dumb one", x.mustGo(400) >> 3 & 1, 0);
    x.days(1);
    C.due("with its holder again: 398", x.coin(6, 6), 398);
    C.due("mustGo(398)", x.mustGo(398) >> 6 & 1, 0);
    C.due("mustGo(399)", x.mustGo(399) >> 6 & 1, 1);
    C.due("no COINS", Texts.with("law 1;").mustGo(400), 0);
  }

  private static void mustGoRefused() {
    C.sentence("18: n DAYS (1 to 400). BAD; STATE: no REALM (ahead of BAD)");
    PenniesAway x = Texts.with(Edge.TWELVE);
    C.due("mustGo(1)", x.mustGo(1), 0);
    C.due("mustGo(400)", x.mustGo(400), 4095);
    Edge.refusedOutside(C, "mustGo(v)", 1, 400, BAD, x::mustGo);
    PenniesAway y = new PenniesAway();
    C.due("no REALM", y.mustGo(1), STATE);
    Edge.refusedOutside(C, "no REALM: mustGo(v)", 1, 400, STATE, y::mustGo);
  }

  private static void save() {
    C.sentence("part 3: SAVE: which COINS (bits), k at most: of those with HOLDERS that have a SLACK of 0 or more, of least SLACK first");
    PenniesAway x = Texts.with("law 20;road 0 1 5;holder 1;holder 2;coin silver 0 3;coin silver 0 15;coin silver 0 16;coin silver 0 10;"
        + "coin forged 0 0;coin silver 1 0;coin old 0 4;coin gold 0 0;");
    // slacks: 12, 0, -1, 5, NONE, NONE, 1, 25
    int[] order = {1, 6, 3, 0, 7};
    int bits = 0;
    for (int k = 0; k <= 12; k++) {
      C.due("save(" + k + ")", x.save(k), bits);
      bits |= k < order.length ? 1 << order[k] : 0;
    }
    x.send(1);
    x.send(3);
    C.due("those under way home are passed over", x.save(1), 1 << 6);
    C.due("those under way home are passed over", x.save(12), 1 << 6 | 1 | 1 << 7);
    x.days(5);
    C.due("coin 1 is out", x.coin(1, 2), 2);
    C.due("those under way out are passed over", x.save(12) & (1 << 1 | 1 << 3), 0);
    C.due("none can be saved", Texts.with("law 5;road 0 1 5;holder 1;coin silver 0 1;coin forged 0 0;").save(12), 0);
    C.due("a SLACK of 0 can", Texts.with("law 5;road 0 1 5;holder 1;coin silver 0 0;coin forged 0 0;").save(12), 1);
    C.due("no COINS", Texts.with("law 1;").save(12), 0);
    C.due("the greatest SLACK", Texts.with("law 400;road 0 1 1;holder 1;coin gold 0 0;").save(1), 1);
  }

  private static void saveTies() {
    C.sentence("part 3: SAVE: of like ones the least number");
    PenniesAway x = Texts.with(Edge.TWELVE);
    for (int k = 0; k <= 12; k++) {
      C.due("save(" + k + ")", x.save(k), (1 << k) - 1);
    }
    PenniesAway y = Texts.with("law 20;road 0 1 5;holder 1;coin silver 0 1;coin silver 0 2;coin silver 0 1;coin silver 0 2;coin silver 0 1;");
    C.due("save(1)", y.save(1), 1 << 1);
    C.due("save(2)", y.save(2), 1 << 1 | 1 << 3);
    C.due("save(3)", y.save(3), 1 << 1 | 1 << 3 | 1);
    C.due("save(4)", y.save(4), 1 << 1 | 1 << 3 | 1 | 1 << 2);
    C.due("save(5)", y.save(5), 31);
  }

  private static void saveRefused() {
    C.sentence("19: k messengers (0 to 12). BAD; STATE: no REALM (ahead of BAD)");
    PenniesAway x = Texts.with(Edge.TWELVE);
    C.due("save(0)", x.save(0), 0);
    C.due("save(12)", x.save(12), 4095);
    Edge.refusedOutside(C, "save(v)", 0, 12, BAD, x::save);
    PenniesAway y = new PenniesAway();
    C.due("no REALM", y.save(0), STATE);
    Edge.refusedOutside(C, "no REALM: save(v)", 0, 12, STATE, y::save);
  }

  private static void tourDays() {
    C.sentence("part 3: TOUR: from the MINT to told HOLDERS (bits), in some order, and home: fewest DAYS");
    PenniesAway x = Texts.with("law 1;road 0 1 90;road 1 2 90;road 2 3 90;road 3 4 90;road 4 5 90;road 5 6 90;road 6 7 90;"
        + "holder 7;holder 1;holder 3;holder 7;holder 5;holder 2;");
    C.due("one of the farthest", x.tour(1, -1), 1260);
    C.due("one of the nearest", x.tour(2, -1), 180);
    C.due("all six, on the way there and back", x.tour(63, -1), 1260);
    C.due("two of one TOWN", x.tour(9, -1), 1260);
    C.due("the last bit", x.tour(32, -1), 360);
    C.due("the ring is shorter", Texts.with("law 1;road 0 1 9;road 1 2 9;road 2 0 9;holder 1;holder 2;").tour(3, -1), 27);
    C.due("there and back is shorter", Texts.with("law 1;road 0 1 9;road 1 2 9;road 2 0 19;holder 1;holder 2;").tour(3, -1), 36);
    C.due("a road is gone twice", Texts.with("law 1;road 0 1 5;road 1 2 1;road 1 3 1;holder 2;holder 3;").tour(3, -1), 14);
    C.due("another than the nearest first",
        Texts.with("law 1;road 0 1 1;road 0 2 2;road 1 3 9;road 2 3 1;road 1 2 9;holder 1;holder 2;holder 3;").tour(7, -1), 8);
  }

  private static void tourOrder() {
    C.sentence("part 3: TOUR: the first order by numbers");
    PenniesAway star = Texts.with("law 1;road 0 1 1;road 0 2 1;road 0 3 1;road 0 4 1;road 0 5 1;road 0 6 1;"
        + "holder 6;holder 5;holder 4;holder 3;holder 2;holder 1;");
    C.due("all orders are alike", star.tour(63, -1), 12);
    order(star, 63, 0, 1, 2, 3, 4, 5);
    order(star, 42, 1, 3, 5);
    order(star, 32, 5);
    PenniesAway ring = Texts.with("law 1;road 0 1 1;road 1 2 1;road 2 3 1;road 3 4 1;road 4 5 1;road 5 0 1;"
        + "holder 3;holder 5;holder 1;holder 2;holder 4;holder 3;");
    C.due("a ring, either way round", ring.tour(63, -1), 6);
    order(ring, 63, 1, 4, 0, 5, 3, 2);
    order(ring, 7, 1, 0, 2);
    order(ring, 33, 0, 5);
    PenniesAway line = Texts.with("law 1;road 0 1 5;road 1 2 5;holder 2;holder 1;");
    C.due("on the way there, or on the way back", line.tour(3, -1), 20);
    order(line, 3, 0, 1);
  }

  private static void order(PenniesAway x, int holders, int... due) {
    String of = "tour(" + holders + ", ";
    for (int k = 0; k < due.length; k++) {
      C.due(of + k + ")", x.tour(holders, k), due[k]);
    }
    C.due(of + due.length + "), there is no such one", x.tour(holders, due.length), NONE);
    C.due(of + "MAX)", x.tour(holders, Edge.MAX), NONE);
  }

  private static void tourNoWay() {
    C.sentence("part 3: TOUR: NONE: no way");
    PenniesAway x = Texts.with("law 9;road 0 1 1;road 5 6 1;holder 1;holder 5;holder 6;holder 1;coin silver 0 0;coin silver 1 0;");
    int[] without = {2, 3, 4, 6, 7, 15};
    for (int holders : without) {
      for (int k = -2; k <= 4; k++) {
        C.due("tour(" + holders + ", " + k + ")", x.tour(holders, k), NONE);
      }
      C.due("BAD ahead of NONE", x.tour(holders, -3), BAD);
    }
    C.due("those with a way", x.tour(9, -1), 2);
    C.due("what was told of one before is gone", x.tour(2, 0), NONE);
    C.due("those with a way save", x.tour(9, -2), 1);
  }

  private static void tourSaves() {
    C.sentence("part 3: TOUR SAVES: all that are with these HOLDERS: no forged ones, not DUMB, SPAN no less than AGE and the DAYS");
    PenniesAway x = Texts.with("law 20;road 0 1 5;road 0 2 1;holder 1;holder 1;holder 2;coin silver 0 9;coin silver 0 10;coin silver 0 11;"
        + "coin silver 1 10;coin forged 0 0;coin old 0 0;coin old 0 1;coin gold 0 20;coin gold 0 21;coin silver 2 0;coin silver 2 9;");
    C.due("holder 0: coins 0, 1, 5, 7", x.tour(1, -2), 4);
    C.due("holder 1: coin 3", x.tour(2, -2), 1);
    C.due("holder 2: coins 9, 10", x.tour(4, -2), 2);
    C.due("holders 0 and 1, of one TOWN", x.tour(3, -2), 5);
    C.due("holders 0 and 2, 12 days: coin 9", x.tour(5, -2), 1);
    x.send(0);
    C.due("one under way home", x.tour(1, -2), 3);
    x.undo();
    x.pass(1, 1);
    C.due("one passed on", x.tour(1, -2), 3);
    C.due("to the other", x.tour(2, -2), 2);
    PenniesAway y = Texts.with("law 20;road 0 1 1;holder 1;coin silver 0 20;coin silver 0 18;coin silver 0 0;coin forged 0 0;");
    C.due("two days", y.tour(1, -2), 2);
    y.days(1);
    C.due("dumb, late, in time", y.tour(1, -2), 1);
    y.send(2);
    y.days(1);
    C.due("one on its way out", y.tour(1, -2), 0);
    y.days(1);
    C.due("with its holder again", y.tour(1, -2), 1);
    C.due("no COINS", Texts.with("law 9;road 0 1 1;holder 1;").tour(1, -2), 0);
  }

  private static void tourRefused() {
    C.sentence("20: BAD: HOLDERS that there are not, none; k below -2; STATE: no REALM (ahead of BAD)");
    for (int n = 0; n <= 6; n++) {
      PenniesAway x = Texts.with("law 9;road 0 1 1;" + "holder 1;".repeat(n));
      int all = (1 << n) - 1;
      C.due("none, of " + n, x.tour(0, -1), BAD);
      Edge.refusedOutside(C, "tour(v, -1) of " + n, 1, all, BAD, v -> x.tour(v, -1));
      C.due("one that there is not, and one that there is", x.tour(1 << n | 1, -1), BAD);
      C.due("the highest bit, and one that there is", x.tour(Edge.MIN | 1, -1), BAD);
      C.due("bit 30, and one that there is", x.tour(1 << 30 | 1, -1), BAD);
      for (int holders = 1; holders <= all; holders++) {
        C.due("tour(" + holders + ", -1) of " + n, x.tour(holders, -1), 2);
      }
    }
    PenniesAway y = Texts.with("law 9;road 0 1 1;holder 1;");
    Edge.refusedBelow(C, "tour(1, v)", -2, BAD, v -> y.tour(1, v));
    C.due("k = -2", y.tour(1, -2), 0);
    C.due("k = -1", y.tour(1, -1), 2);
    C.due("k = 0", y.tour(1, 0), 0);
    PenniesAway z = new PenniesAway();
    C.due("no REALM", z.tour(1, 0), STATE);
    C.due("no REALM, none", z.tour(0, 0), STATE);
    C.due("no REALM, k = -3", z.tour(1, -3), STATE);
    C.due("no REALM, HOLDERS that there are not", z.tour(-1, 0), STATE);
  }

  private static void mintTown() {
    C.sentence("part 3: MINT: the TOWN (1 to 7) in which a second one would leave fewest COINS LATE, of several the first; how many");
    for (int town = 1; town <= 7; town++) {
      PenniesAway x = Texts.with("law 5;road 0 " + town + " 9;holder " + town + ";coin silver 0 5;coin silver 0 6;");
      C.due("town " + town + " alone helps", x.mint(0), town);
      C.due("a SLACK of 0 is not LATE, of -1 is", x.mint(1), 1);
    }
    mint("no COINS", "law 1;", 1, 0);
    mint("none is LATE", "law 90;road 0 1 5;holder 1;coin silver 0 0;", 1, 0);
    mint("none helps", "law 5;road 0 3 9;holder 3;coin silver 0 6;coin gold 0 400;", 1, 2);
    mint("forged ones", "law 5;road 0 3 9;holder 3;coin forged 0 6;", 1, 0);
    mint("two help alike, the first of them", "law 5;road 0 3 9;road 0 6 9;holder 3;holder 6;coin silver 0 5;coin silver 1 5;", 3, 1);
    mint("the later helps more", "law 5;road 0 3 9;road 0 6 9;holder 3;holder 6;coin silver 0 5;coin silver 1 5;coin old 1 2;", 6, 1);
    mint("all twelve", "law 5;road 0 1 9;road 1 2 1;holder 2;" + "coin silver 0 5;".repeat(12), 2, 0);
    mint("all twelve stay LATE", "law 5;road 0 1 9;road 1 2 1;holder 2;" + "coin silver 0 6;".repeat(12), 1, 12);
  }

  private static void mint(String what, String text, int town, int late) {
    PenniesAway x = Texts.with(text);
    C.due(what + ": mint(0)", x.mint(0), town);
    C.due(what + ": mint(1)", x.mint(1), late);
  }

  private static void mintNearer() {
    C.sentence("part 3: MINT: FAR, for COINS with HOLDERS, from the nearer one");
    mint("the second is nearer", "law 10;road 0 1 6;road 1 2 4;holder 2;coin silver 0 6;", 1, 0);
    mint("by a day too far", "law 10;road 0 1 6;road 1 2 5;holder 2;coin silver 0 6;", 2, 0);
    mint("the first is nearer for one, the second for the other",
        "law 10;road 0 1 6;road 1 2 6;holder 1;holder 2;coin silver 0 4;coin silver 1 4;", 1, 0);
    // there is no way to the first mint: LATE comes with the second
    mint("a way to the second alone", "law 5;road 1 2 3;holder 2;coin silver 0 3;", 2, 0);
    mint("a way to the second alone, in time", "law 5;road 1 2 3;holder 2;coin silver 0 2;", 1, 0);
  }

  private static void mintUnderWay() {
    C.sentence("part 3: MINT: FAR, for COINS with HOLDERS: others are as they are");
    PenniesAway x = Texts.with("law 9;road 0 1 5;holder 1;coin silver 0 5;coin silver 0 0;coin silver 0 5;");
    C.due("mint(1)", x.mint(1), 0);
    x.send(0);
    C.due("one that is LATE goes home", x.mint(1), 1);
    C.due("mint(0)", x.mint(0), 1);
    x.send(1);
    x.days(5);
    C.due("rung, on its way out, LATE: -1 each; the third is dumb", x.mint(1), 2);
    C.due("dumb", x.coin(2, 4), 1);
    x.days(5);
    C.due("with holders again", x.mint(1), 0);
    C.due("late() as it is", x.late(), 3);
  }

  private static void mintRefused() {
    C.sentence("21: what = 0, 1. BAD; STATE: no REALM (ahead of BAD)");
    PenniesAway x = Texts.with(Edge.TWELVE);
    C.due("mint(0)", x.mint(0), 1);
    C.due("mint(1)", x.mint(1), 0);
    Edge.refusedOutside(C, "mint(v)", 0, 1, BAD, x::mint);
    PenniesAway y = new PenniesAway();
    C.due("no REALM", y.mint(0), STATE);
    Edge.refusedOutside(C, "no REALM: mint(v)", 0, 1, STATE, y::mint);
  }

  private static void sounds() {
    C.sentence("part 3: SOUNDS in a TOWN in n DAYS: would not be DUMB then, if none is SENT: how many");
    PenniesAway x = Texts.with("law 10;holder 7;coin silver 0 0;coin copper 0 5;coin gold 0 5;coin old 0 5;coin forged 0 400;");
    C.due("sounds(7, 0)", x.sounds(7, 0), 5);
    C.due("sounds(7, 1): old at its SPAN", x.sounds(7, 1), 4);
    C.due("sounds(7, 5): copper at its SPAN", x.sounds(7, 5), 4);
    C.due("sounds(7, 6)", x.sounds(7, 6), 3);
    C.due("sounds(7, 10): silver and gold at their SPAN", x.sounds(7, 10), 3);
    C.due("sounds(7, 11)", x.sounds(7, 11), 1);
    C.due("sounds(7, 400): a forged one never falls DUMB", x.sounds(7, 400), 1);
    PenniesAway y = Texts.with("law 400;holder 1;coin silver 0 0;coin silver 0 1;coin gold 0 200;coin gold 0 201;");
    C.due("sounds(1, 399)", y.sounds(1, 399), 4);
    C.due("sounds(1, 400)", y.sounds(1, 400), 2);
    PenniesAway z = Texts.with("law 5;holder 1;coin silver 0 5;coin silver 0 6;coin silver 0 400;");
    C.due("in 0 days none falls DUMB, though its AGE is above SPAN", z.sounds(1, 0), 3);
    C.due("in 1 day all do", z.sounds(1, 1), 0);
    z.days(1);
    C.due("they are DUMB", z.sounds(1, 0), 0);
    C.due("no COINS", Texts.with("law 1;holder 1;").sounds(1, 0), 0);
  }

  private static void soundsWithHolders() {
    C.sentence("part 3: SOUNDS: COINS with HOLDERS there that are not LOST");
    PenniesAway x = Texts.with("law 90;road 0 1 2;road 1 2 1;holder 1;holder 2;holder 1;coin silver 0 0;coin forged 0 0;coin gold 1 0;coin old 2 0;");
    C.due("the mint's TOWN has no HOLDERS", x.sounds(0, 0), 0);
    C.due("two HOLDERS of a TOWN", x.sounds(1, 0), 3);
    C.due("another TOWN", x.sounds(2, 0), 1);
    C.due("one without HOLDERS", x.sounds(7, 0), 0);
    x.send(0);
    x.send(1);
    C.due("those under way home are not with HOLDERS", x.sounds(1, 0), 1);
    C.due("not in so many days, either", x.sounds(1, 40), 1);
    x.days(2);
    C.due("one out, one lost", x.coin(0, 2) * 10 + x.coin(1, 2), 23);
    C.due("not either of them", x.sounds(1, 0), 1);
    C.due("not at the mint, either", x.sounds(0, 0), 0);
    x.days(2);
    C.due("with its holder again", x.sounds(1, 0), 2);
  }

  private static void soundsAsLived() {
    C.sentence("part 3: SOUNDS foretells what the DAYS bring, if none is SENT");
    String text = "law 30;road 0 1 9;holder 1;holder 2;coin silver 0 0;coin silver 0 29;coin copper 1 30;coin gold 1 3;coin old 0 14;"
        + "coin old 1 15;coin forged 1 99;coin silver 0 31;coin silver 1 400;";
    PenniesAway now = Texts.with(text);
    PenniesAway x = Texts.with(text);
    for (int n = 0; n <= 60; n++) {
      int[] sound = new int[3];
      for (int c = 0; c < 9; c++) {
        sound[x.coin(c, 0) + 1] += 1 - x.coin(c, 4);
      }
      C.due("sounds(1, " + n + ")", now.sounds(1, n), sound[1]);
      C.due("sounds(2, " + n + ")", now.sounds(2, n), sound[2]);
      if (n % 20 == 19) {
        x = Texts.with(text);
        Edge.live(x, n);
      }
      x.days(1);
    }
  }

  private static void soundsRefused() {
    C.sentence("22: BAD: TOWN 0 to 7, n (0 to 400); STATE: no REALM (ahead of BAD)");
    PenniesAway x = Texts.with(Edge.TWELVE);
    Edge.taken(C, "sounds(v, 0)", 0, 7, v -> x.sounds(v, 0));
    C.due("sounds(1, 0)", x.sounds(1, 0), 12);
    C.due("sounds(1, 400)", x.sounds(1, 400), 0);
    Edge.refusedOutside(C, "sounds(v, 0)", 0, 7, BAD, v -> x.sounds(v, 0));
    Edge.refusedOutside(C, "sounds(1, v)", 0, 400, BAD, v -> x.sounds(1, v));
    PenniesAway y = new PenniesAway();
    C.due("no REALM", y.sounds(1, 0), STATE);
    Edge.refusedOutside(C, "no REALM: sounds(v, 0)", 0, 7, STATE, v -> y.sounds(v, 0));
    Edge.refusedOutside(C, "no REALM: sounds(1, v)", 0, 400, STATE, v -> y.sounds(1, v));
  }

  private static void earOdds() {
    C.sentence("part 3: EAR: odds that it is forged: a fraction, in lowest terms (0 is 0 by 1)");
    PenniesAway x = new PenniesAway();
    for (int f = 0; f <= 10; f++) {
      for (int e = 0; e <= 10; e++) {
        for (int n = 0; n <= 3; n++) {
          PenniesAway y = new PenniesAway();
          for (int k = 0; k <= n; k++) {
            odds(y, f, e, n, k);
          }
        }
      }
    }
    C.due("by hand: 3 of 10 forged, right 8 times of 10, twice of 3 true", x.ear(3, 8, 3, 2, 0), 3);
    C.due("by hand, below", x.ear(3, 8, 3, 2, 1), 31);
    C.due("nothing was heard: as many as are forged", x.ear(4, 9, 0, 0, 0), 2);
    C.due("nothing was heard, below", x.ear(4, 9, 0, 0, 1), 5);
  }

  private static void odds(PenniesAway x, int f, int e, int n, int k) {
    BigInteger forged = BigInteger.valueOf(f).multiply(BigInteger.valueOf(10 - e).pow(k)).multiply(BigInteger.valueOf(e).pow(n - k));
    BigInteger genuine = BigInteger.valueOf(10 - f).multiply(BigInteger.valueOf(e).pow(k)).multiply(BigInteger.valueOf(10 - e).pow(n - k));
    BigInteger all = forged.add(genuine);
    if (all.signum() == 0) {
      all = BigInteger.ONE;
    }
    BigInteger common = forged.gcd(all);
    String call = "ear(" + f + ", " + e + ", " + n + ", " + k + ", ";
    C.due(call + "0)", x.ear(f, e, n, k, 0), forged.divide(common).intValue());
    C.due(call + "1)", x.ear(f, e, n, k, 1), all.divide(common).intValue());
  }

  private static void earCannotBe() {
    C.sentence("part 3: EAR: it can not be so: 0 by 1");
    int[][] cases = {{0, 10, 1, 0}, {0, 10, 3, 2}, {10, 10, 1, 1}, {10, 10, 3, 1}, {5, 10, 2, 1}, {5, 10, 3, 1}, {5, 10, 3, 2},
        {0, 0, 1, 1}, {10, 0, 1, 0}, {5, 0, 2, 1}, {5, 0, 3, 2}};
    PenniesAway x = new PenniesAway();
    for (int[] c : cases) {
      String call = "ear(" + c[0] + ", " + c[1] + ", " + c[2] + ", " + c[3] + ", ";
      C.due(call + "0)", x.ear(c[0], c[1], c[2], c[3], 0), 0);
      C.due(call + "1)", x.ear(c[0], c[1], c[2], c[3], 1), 1);
    }
    C.due("none are forged: 0", x.ear(0, 5, 3, 0, 0), 0);
    C.due("by 1", x.ear(0, 5, 3, 0, 1), 1);
    C.due("all are forged: 1", x.ear(10, 5, 3, 3, 0), 1);
    C.due("by 1", x.ear(10, 5, 3, 3, 1), 1);
    C.due("surely forged: 1", x.ear(1, 10, 3, 0, 0), 1);
    C.due("by 1", x.ear(1, 10, 3, 0, 1), 1);
  }

  private static void earRefused() {
    C.sentence("23: f, e 0 to 10, n 0 to 3, above (what = 0), below (1). BAD: k above n, too");
    PenniesAway x = new PenniesAway();
    Edge.refusedOutside(C, "ear(v, 5, 1, 1, 0)", 0, 10, BAD, v -> x.ear(v, 5, 1, 1, 0));
    Edge.refusedOutside(C, "ear(5, v, 1, 1, 0)", 0, 10, BAD, v -> x.ear(5, v, 1, 1, 0));
    Edge.refusedOutside(C, "ear(5, 5, v, 0, 0)", 0, 3, BAD, v -> x.ear(5, 5, v, 0, 0));
    Edge.refusedOutside(C, "ear(5, 5, v, v, 0)", 0, 3, BAD, v -> x.ear(5, 5, v, v, 0));
    for (int n = 0; n <= 3; n++) {
      int of = n;
      Edge.refusedOutside(C, "ear(5, 5, " + n + ", v, 0)", 0, n, BAD, v -> x.ear(5, 5, of, v, 0));
      C.due("k = n = " + n, x.ear(5, 5, n, n, 1), 2);
    }
    Edge.refusedOutside(C, "ear(5, 5, 1, 1, v)", 0, 1, BAD, v -> x.ear(5, 5, 1, 1, v));
    Edge.taken(C, "ear(v, 5, 3, 3, 0)", 0, 10, v -> x.ear(v, 5, 3, 3, 0));
    Edge.taken(C, "ear(5, v, 3, 3, 0)", 0, 10, v -> x.ear(5, v, 3, 3, 0));
    C.due("it needs no REALM", x.ear(5, 5, 1, 1, 1), 2);
  }

  private static void image() {
    C.sentence("24: An IMAGE (0, 1) is kept of the REALM: 1");
    PenniesAway x = Texts.with(Edge.TWELVE);
    C.due("image(0)", x.image(0), 1);
    x.days(3);
    C.due("image(1)", x.image(1), 1);
    x.days(3);
    C.due("acts stay", x.count(4), 2);
    C.due("restore(0)", x.restore(0), 1);
    C.due("the first", x.count(3), 0);
    C.due("restore(1)", x.restore(1), 1);
    C.due("the second", x.count(3), 3);
    x.days(4);
    C.due("image(0), in place of the one before", x.image(0), 1);
    x.days(4);
    x.restore(0);
    C.due("the later one", x.count(3), 7);
    C.due("acts behind an image are undone as before", acts(x), 1);
    x.restore(1);
    C.due("the other is as it was", x.count(3), 3);
  }

  /** An image is no act, and forgets none. */
  private static int acts(PenniesAway x) {
    x.days(1);
    x.days(1);
    x.image(0);
    int yet = x.undo();
    x.undo();
    return yet;
  }

  private static void imageRefused() {
    C.sentence("24: BAD; STATE: no REALM");
    PenniesAway x = new PenniesAway();
    C.due("no REALM: image(0)", x.image(0), STATE);
    C.due("no REALM: image(1)", x.image(1), STATE);
    Edge.refusedOutside(C, "BAD ahead of STATE: image(v)", 0, 1, BAD, x::image);
    C.due("none was kept", x.restore(0), STATE);
    Texts.read(x, "law 1;");
    Edge.refusedOutside(C, "image(v)", 0, 1, BAD, x::image);
    C.due("none was kept", x.restore(0), STATE);
    C.due("none was kept", x.restore(1), STATE);
  }

  private static void restore() {
    C.sentence("25: The REALM is as an IMAGE kept it (no ACT can be undone then): 1");
    PenniesAway x = Texts.with("law 10;road 0 1 3;holder 1;holder 1;coin silver 0 0;coin forged 0 0;coin old 1 0;coin gold 1 2;");
    x.send(0);
    x.send(1);
    x.days(6);
    x.send(3);
    x.pass(2, 0);
    x.image(1);
    C.due("another REALM", Texts.read(x, "law 400;road 0 1 90;holder 7;coin copper 0 1;"), 1);
    x.days(5);
    x.ask(0, 1);
    x.row(2, 0, 4);
    Texts.feed(x, "law");
    C.due("restore(1)", x.restore(1), 1);
    C.due("no ACT can be undone", x.undo(), STATE);
    int[] counts = {1, 2, 4, 6, 0, 1, 1, 3};
    for (int what = 0; what < 8; what++) {
      C.due("count(" + what + ")", x.count(what), counts[what]);
    }
    Edge.coin(C, "with its holder", x, 0, 0, 3, 0, 0, 0, 10, 4, 40);
    Edge.coin(C, "lost", x, 1, 0, 3, 3, 0, 0, 10, NONE, 0);
    Edge.coin(C, "dumb, passed", x, 2, 0, 6, 0, 0, 1, 5, NONE, 0);
    Edge.coin(C, "home", x, 3, 1, 8, 1, 3, 0, 15, 4, 26);
    C.due("its roads", x.far(0, 1), 3);
    C.due("its HOLDERS' TOWNS", x.sounds(1, 0), 1);
    C.due("no HOLDERS of the other", x.sounds(7, 0), 0);
    C.due("its KINDS", x.kind(0) * 1000 + x.kind(1) * 100 + x.kind(2) * 10 + x.kind(3), 1542);
    C.due("THE TRACE stays", x.trace(0), 22);
    x.days(3);
    C.due("it goes on from there", x.coin(3, 2), 2);
    C.due("acts are kept anew", x.count(4), 1);
    C.due("restore(1), again", x.restore(1), 1);
    C.due("what went on did not touch the IMAGE", x.count(3), 6);
    C.due("no ACT can be undone", x.count(4), 0);
    C.due("coin 3 goes home", x.coin(3, 3), 3);
  }

  /** A realm that is as great as one can be, so that nothing of it is left out. */
  private static void restoreWhole() {
    C.sentence("25: The REALM is as an IMAGE kept it: all of its roads, HOLDERS and COINS");
    String great = "law 99;road 0 1 9;road 1 2 8;road 2 3 7;road 3 4 6;road 4 5 5;road 5 6 4;road 6 7 3;holder 2;holder 3;holder 4;holder 5;"
        + "holder 6;holder 7;" + "coin gold 5 1;coin silver 4 2;coin copper 3 3;coin forged 2 4;coin old 1 5;coin gold 0 6;".repeat(2);
    for (int k = 0; k < 2; k++) {
      PenniesAway x = Texts.with(great);
      PenniesAway y = Texts.with(great);
      for (int c = 0; c < 12; c += 3) {
        x.send(c);
        y.send(c);
      }
      x.image(k);
      C.due("another realm", Texts.read(x, "law 1;road 0 7 1;road 1 6 1;" + "holder 1;".repeat(6) + "coin old 0 400;".repeat(12)), 12);
      x.days(9);
      C.due("restore(" + k + ")", x.restore(k), 1);
      // a twin that never had another realm, and no act that can be undone, either
      y.image(k);
      y.restore(k);
      List<Integer> seen = Twins.seen(x);
      List<Integer> due = Twins.seen(y);
      C.holds("restore(" + k + "): " + seen + ", due " + due, seen.equals(due));
      C.due("far(7, 0)", x.far(7, 0), 42);
      C.due("far(6, 7)", x.far(6, 7), 3);
      C.due("coin(11, 1)", x.coin(11, 1), 6);
      C.due("sounds(7, 0)", x.sounds(7, 0), 0);
      C.due("sounds(6, 0)", x.sounds(6, 0), 2);
    }
  }

  private static void restoreRefused() {
    C.sentence("25: BAD; STATE: none was kept");
    PenniesAway x = new PenniesAway();
    C.due("restore(0)", x.restore(0), STATE);
    C.due("restore(1)", x.restore(1), STATE);
    Edge.refusedOutside(C, "BAD ahead of STATE: restore(v)", 0, 1, BAD, x::restore);
    Texts.read(x, Edge.TWELVE);
    x.days(2);
    C.due("restore(0)", x.restore(0), STATE);
    C.due("restore(1)", x.restore(1), STATE);
    x.image(1);
    C.due("restore(0)", x.restore(0), STATE);
    C.due("acts stay", x.count(4), 1);
    C.due("restore(1)", x.restore(1), 1);
    Edge.refusedOutside(C, "restore(v)", 0, 1, BAD, x::restore);
  }
}
