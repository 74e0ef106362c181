/** Promises 6 to 8: feed, realm, fault. */
public final class TextsTest {
  private static final Check C = new Check("TextsTest");

  public static void main(String[] args) {
    feed();
    texts();
    faults();
    fullSorts();
    faultChangesNothing();
    newRealm();
    C.end();
  }

  private static void feed() {
    PenniesAway x = new PenniesAway();
    C.due("feed(0, 0)", x.feed(0, 0), PenniesAway.BAD);
    C.due("feed(0, -1)", x.feed(0, -1), PenniesAway.BAD);
    C.due("feed(0, 9)", x.feed(0, 9), PenniesAway.BAD);
    C.due("feed(.., 1)", x.feed(-1L, 1), 1);
    C.due("feed(.., 8)", x.feed(-1L, 8), 9);
    for (int i = 0; i < 61; i++) {
      x.feed(0x2020202020202020L, 8);
    }
    C.due("count(7)", x.count(7), 497);
    C.due("feed(.., 4)", x.feed(0, 4), PenniesAway.FULL);
    C.due("feed(.., 9) on a full tape", x.feed(0, 9), PenniesAway.BAD);
    C.due("count(7)", x.count(7), 497);
    C.due("feed(.., 3)", x.feed(0, 3), 500);
    C.due("feed(.., 1)", x.feed(0, 1), PenniesAway.FULL);
    C.due("realm()", x.realm(), -1000100);
    C.due("count(7)", x.count(7), 0);
    // only the lowest bytes come, the highest of them first
    x.feed(0x7878_6c61_7720L, 4);
    x.feed(0x7878_393bL, 2);
    C.due("realm()", x.realm(), 0);
    C.due("late()", x.late(), 0);
  }

  private static void texts() {
    text("law 1;", 0);
    text("law1;", 0);
    text("\n law\n\n400 ; ", 0);
    text("law 001;holder 7;coin old 0 400;coin silver 0 0;", 2);
    text("law 9;road 0 7 90;road 7 0 1;holder 1;", 0);
    text("law 9;holder 1;coin forged 0 000;", 1);
    text("law 9;road1 2 3;holder4;coin gold0 5;", 1);
    PenniesAway x = Texts.with("law 9;road 0 7 90;road 7 0 5;road 0 7 6;");
    C.due("of one pair the least counts", x.far(0, 7), 5);
    C.due("either way round", x.far(7, 0), 5);
  }

  private static void text(String text, int due) {
    C.due("'" + text + "'", Texts.read(new PenniesAway(), text), due);
  }

  private static void faults() {
    fault("", 0, 1);
    fault("  ", 2, 1);
    fault("law", 3, 1);
    fault("law ", 4, 1);
    fault("law 1 ", 6, 1);
    fault("lax 1;", 0, 1);
    fault("lawx 1;", 0, 1);
    fault("saw 1;", 0, 1);
    fault("law 1;zoad 0 1 1;", 6, 1);
    fault("law 1;holder 1;coin cold 0 0;", 20, 1);
    fault("la 1;", 0, 1);
    fault("Law 1;", 0, 1);
    fault("1 law;", 0, 1);
    fault("; law 1;", 0, 1);
    fault("law x;", 4, 1);
    fault("law ;", 4, 1);
    fault("law 0;", 4, 2);
    fault("law 000;", 4, 2);
    fault("law 401;", 4, 2);
    fault("law 0001;", 4, 1);
    fault("law 9999;", 4, 1);
    fault("law 1 1;", 6, 1);
    fault("law 1a;", 5, 1);
    fault("law\t1;", 3, 1);
    fault("law 1;$", 6, 1);
    fault("law 1;\r", 6, 1);
    fault("law 1;" + (char) 233, 6, 1);
    fault("law 1;;", 6, 1);
    fault("law 1;law 1;", 6, 1);
    fault("law 1;roads 0 1 1;", 6, 1);
    fault("law 1;road 8 1 1;", 11, 2);
    fault("law 1;road x 1 1;", 11, 1);
    fault("law 1;road 1 1 1;", 13, 2);
    fault("law 1;road 1 001 1;", 13, 2);
    fault("law 1;road 1 8 1;", 13, 2);
    fault("law 1;road 8 8 1;", 11, 2);
    fault("law 1;road 1 ; 1;", 13, 1);
    fault("law 1;road 0 1 0;", 15, 2);
    fault("law 1;road 0 1 91;", 15, 2);
    fault("law 1;road 0 1 0", 15, 2);
    fault("law 1;road 0 1 1000;", 15, 1);
    fault("law 1;road 0 1 1", 16, 1);
    fault("law 1;road 0 1;", 14, 1);
    fault("law 1;holder 0;", 13, 2);
    fault("law 1;holder 8;", 13, 2);
    fault("law 1;holder;", 12, 1);
    fault("law 1;holder 1 1;", 15, 1);
    fault("law 1;holder 1;road 0 1 1;", 15, 1);
    fault("law 1;holder 1;coin tin 0 0;", 20, 1);
    fault("law 1;holder 1;coin coin 0 0;", 20, 1);
    fault("law 1;holder 1;coin 0 0;", 20, 1);
    fault("law 1;holder 1;coin gold 1 0;", 25, 2);
    fault("law 1;coin gold 0 0;", 16, 2);
    fault("law 1;coin gold a 0;", 16, 1);
    fault("law 1;holder 1;coin gold 0 401;", 27, 2);
    fault("law 1;holder 1;coin gold 0;", 26, 1);
    fault("law 1;holder 1;coin gold 0 0;holder 1;", 29, 1);
    fault("law 1;holder 1;coin gold 0 0;road 0 1 1;", 29, 1);
    // the first fault counts, though a worse one is behind it
    fault("law 0;$", 4, 2);
    fault("law 1;road 0 1 0 $", 15, 2);
  }

  private static void fault(String text, int place, int number) {
    PenniesAway x = new PenniesAway();
    C.due("'" + text + "'", Texts.read(x, text), -1000100 - place);
    C.due("fault of '" + text + "'", x.fault(), number);
  }

  private static void fullSorts() {
    String road = "road 0 1 1;";
    String holder = "holder 1;";
    String coin = "coin old 0 0;";
    text("law 1;" + road.repeat(14), 0);
    fault("law 1;" + road.repeat(15), 6 + 14 * 11, 3);
    fault("law 1;" + road.repeat(14) + "road", 6 + 14 * 11, 3);
    text("law 1;" + holder.repeat(6), 0);
    fault("law 1;" + holder.repeat(7), 6 + 6 * 9, 3);
    text("law 1;" + holder + coin.repeat(12), 12);
    fault("law 1;" + holder + coin.repeat(13), 15 + 12 * 13, 3);
    // it cannot stand there, either: the least counts
    fault("law 1;" + road.repeat(14) + holder + "road", 6 + 14 * 11 + 9, 1);
    fault("law 1;" + holder.repeat(6) + coin + "holder", 6 + 6 * 9 + 13, 1);
  }

  private static void faultChangesNothing() {
    PenniesAway x = Texts.with(Texts.SMALL);
    x.days(2);
    x.send(0);
    C.due("realm() with a fault", Texts.read(x, "law 7;holder 3;coin old 0 9;coin"), -1000132);
    C.due("the tape is empty", x.count(7), 0);
    C.due("holders", x.count(1), 5);
    C.due("coins", x.count(2), 6);
    C.due("day", x.count(3), 2);
    C.due("acts", x.count(4), 2);
    C.due("far", x.far(0, 2), 17);
    C.due("age", x.coin(0, 1), 47);
    C.due("under way", x.coin(0, 2), 1);
    C.due("span", x.coin(0, 5), 60);
    C.due("undo()", x.undo(), 1);
    C.due("with the holder", x.coin(0, 2), 0);
    C.due("realm()", Texts.read(x, "law 7;"), 0);
    C.due("the latest fault stays", x.fault(), 1);
    C.due("realm()", Texts.read(x, "law 0;"), -1000104);
    C.due("the latest fault", x.fault(), 2);
  }

  private static void newRealm() {
    PenniesAway x = Texts.with(Texts.SMALL);
    x.send(0);
    x.days(99);
    C.holds("some are dumb", x.count(5) > 0);
    C.due("realm()", Texts.read(x, Texts.SMALL), 6);
    C.due("day", x.count(3), 0);
    C.due("acts", x.count(4), 0);
    C.due("dumb", x.count(5), 0);
    C.due("undo()", x.undo(), PenniesAway.STATE);
    for (int c = 0; c < 6; c++) {
      C.due("where", x.coin(c, 2), 0);
      C.due("left", x.coin(c, 3), 0);
      C.due("dumb", x.coin(c, 4), 0);
    }
    C.due("realm()", Texts.read(x, "law 5;holder 7;coin old 0 400;"), 1);
    C.due("no road of before", x.far(0, 1), PenniesAway.NONE);
    C.due("none is dumb, however old", x.coin(0, 4), 0);
    C.due("no coin of before", x.coin(1, 0), PenniesAway.BAD);
    C.due("holders", x.count(1), 1);
  }
}
