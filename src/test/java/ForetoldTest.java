/** Promises 17 to 25: late, mustGo, save, tour, mint, sounds, ear, image, restore. */
public final class ForetoldTest {
  private static final Check C = new Check("ForetoldTest");
  private static final int BAD = PenniesAway.BAD, STATE = PenniesAway.STATE, NONE = PenniesAway.NONE;
  private static final String LINE = "law 30;road 0 1 5;road 1 2 5;road 2 3 5;road 3 4 5;"
      + "holder 1;holder 2;holder 3;holder 4;holder 4;"
      + "coin silver 0 24;coin silver 1 20;coin silver 2 16;coin silver 3 10;coin old 3 0;coin gold 3 20;";

  public static void main(String[] args) {
    noRealm();
    late();
    mustGo();
    save();
    fewerCoins();
    tour();
    tourSaves();
    mint();
    sounds();
    ear();
    images();
    C.end();
  }

  private static void noRealm() {
    PenniesAway x = new PenniesAway();
    C.due("late", x.late(), STATE);
    C.due("mustGo, ahead of BAD", x.mustGo(0), STATE);
    C.due("save, ahead of BAD", x.save(13), STATE);
    C.due("tour, ahead of BAD", x.tour(0, -3), STATE);
    C.due("mint, ahead of BAD", x.mint(2), STATE);
    C.due("sounds, ahead of BAD", x.sounds(8, 401), STATE);
    C.due("ear needs none", x.ear(5, 5, 0, 0, 1), 2);
    C.due("image, behind BAD", x.image(2), BAD);
    C.due("image", x.image(0), STATE);
    C.due("restore, behind BAD", x.restore(-1), BAD);
    C.due("restore", x.restore(0), STATE);
  }

  private static void late() {
    PenniesAway x = Texts.with(LINE);
    C.due("late()", x.late(), 1 << 2 | 1 << 4);
    x.send(3);
    C.due("under way, in time", x.late(), 1 << 2 | 1 << 4);
    C.due("flood(1)", x.flood(1), 1);
    C.due("under way, late", x.late(), 1 << 2 | 1 << 3 | 1 << 4);
    x.days(30);
    C.due("the dumb are not late", x.late() & 1 << 4, 0);
    x = Texts.with("law 20;holder 1;coin silver 0 400;coin forged 0 400;");
    C.due("no way: not late", x.late(), 0);
    // on its way out it needs what is left, and the way home
    x = Texts.with("law 9;road 0 1 5;holder 1;coin silver 0 0;");
    x.send(0);
    x.days(5);
    C.due("slack on the way out", x.coin(0, 6), -1);
    C.due("late on the way out", x.late(), 1);
  }

  private static void mustGo() {
    PenniesAway x = Texts.with(LINE);
    C.due("mustGo(0)", x.mustGo(0), BAD);
    C.due("mustGo(-1)", x.mustGo(-1), BAD);
    C.due("mustGo(401)", x.mustGo(401), BAD);
    C.due("mustGo(1)", x.mustGo(1), 1 << 1 | 1 << 3);
    C.due("mustGo(2)", x.mustGo(2), 1 << 0 | 1 << 1 | 1 << 3);
    C.due("mustGo(5)", x.mustGo(5), 1 << 0 | 1 << 1 | 1 << 3);
    C.due("mustGo(400)", x.mustGo(400), 1 << 0 | 1 << 1 | 1 << 3 | 1 << 5);
    x.send(1);
    C.due("those with HOLDERS alone", x.mustGo(400), 1 << 0 | 1 << 3 | 1 << 5);
  }

  private static void save() {
    PenniesAway x = Texts.with(LINE);
    C.due("save(-1)", x.save(-1), BAD);
    C.due("save(13)", x.save(13), BAD);
    C.due("save(0)", x.save(0), 0);
    C.due("save(1): of like ones the least", x.save(1), 1 << 1);
    C.due("save(2)", x.save(2), 1 << 1 | 1 << 3);
    C.due("save(3)", x.save(3), 1 << 0 | 1 << 1 | 1 << 3);
    C.due("save(4)", x.save(4), 1 << 0 | 1 << 1 | 1 << 3 | 1 << 5);
    C.due("save(12)", x.save(12), 1 << 0 | 1 << 1 | 1 << 3 | 1 << 5);
    C.due("nothing changes", x.count(4), 0);
    x.send(1);
    C.due("save(1)", x.save(1), 1 << 3);
    x = Texts.with("law 5;road 0 1 5;holder 1;coin silver 0 1;coin forged 0 0;");
    C.due("none can be saved", x.save(12), 0);
  }

  /** Coins of a realm that was before are no coins of this one. */
  private static void fewerCoins() {
    String road = "law 9;road 0 1 5;holder 1;";
    PenniesAway x = Texts.with(road + "coin old 0 5;".repeat(12));
    C.due("late()", x.late(), 4095);
    C.due("days(1)", x.days(1), 4095);
    Texts.read(x, road);
    C.due("late()", x.late(), 0);
    C.due("mustGo(400)", x.mustGo(400), 0);
    C.due("save(12)", x.save(12), 0);
    C.due("tour(1, -2)", x.tour(1, -2), 0);
    C.due("mint(1)", x.mint(1), 0);
    C.due("sounds(1, 0)", x.sounds(1, 0), 0);
    C.due("days(99)", x.days(99), 0);
    C.due("count(5)", x.count(5), 0);
    Texts.read(x, road + "coin silver 0 0;".repeat(12));
    C.due("mustGo(5)", x.mustGo(5), 4095);
    C.due("save(5)", x.save(5), 31);
    C.due("save(12)", x.save(12), 4095);
    C.due("sounds(1, 9)", x.sounds(1, 9), 12);
    x.send(11);
    C.due("flood(1)", x.flood(1), 1);
    C.due("late()", x.late(), 1 << 11);
    C.due("mint(1)", x.mint(1), 1);
  }

  private static void tour() {
    PenniesAway x = Texts.with(LINE);
    C.due("tour(0, 0)", x.tour(0, 0), BAD);
    C.due("tour(32, 0)", x.tour(32, 0), BAD);
    C.due("tour(33, 0)", x.tour(33, 0), BAD);
    C.due("tour(-1, 0)", x.tour(-1, 0), BAD);
    C.due("tour(MIN, 0)", x.tour(Integer.MIN_VALUE, 0), BAD);
    C.due("tour(1, -3)", x.tour(1, -3), BAD);
    C.due("tour(1, -1)", x.tour(1, -1), 10);
    C.due("tour(1, 0)", x.tour(1, 0), 0);
    C.due("tour(1, 1)", x.tour(1, 1), NONE);
    C.due("tour(1, MAX)", x.tour(1, Integer.MAX_VALUE), NONE);
    C.due("tour(31, -1)", x.tour(31, -1), 40);
    for (int k = 0; k < 5; k++) {
      C.due("tour(31, " + k + ")", x.tour(31, k), k);
    }
    C.due("tour(31, 5)", x.tour(31, 5), NONE);
    C.due("tour(24, -1): of one TOWN", x.tour(24, -1), 40);
    C.due("tour(24, 0)", x.tour(24, 0), 3);
    C.due("tour(24, 1)", x.tour(24, 1), 4);
    // a ring, by which the order of the numbers is not the shortest
    x = Texts.with("law 9;road 0 1 1;road 1 2 1;road 2 3 1;road 3 0 1;road 0 4 30;holder 1;holder 3;holder 2;holder 4;holder 5;");
    C.due("tour(7, -1)", x.tour(7, -1), 4);
    C.due("tour(7, 0)", x.tour(7, 0), 0);
    C.due("tour(7, 1)", x.tour(7, 1), 2);
    C.due("tour(7, 2)", x.tour(7, 2), 1);
    C.due("tour(15, -1)", x.tour(15, -1), 64);
    C.due("tour(15, 0)", x.tour(15, 0), 0);
    C.due("tour(15, 1)", x.tour(15, 1), 2);
    C.due("tour(15, 2)", x.tour(15, 2), 1);
    C.due("tour(15, 3)", x.tour(15, 3), 3);
    C.due("no way to one", x.tour(31, -1), NONE);
    C.due("no way to one", x.tour(31, 0), NONE);
    C.due("no way to one", x.tour(31, -2), NONE);
    C.due("no way, k too low", x.tour(31, -3), BAD);
    x = Texts.with("law 9;");
    C.due("no HOLDERS", x.tour(1, 0), BAD);
  }

  private static void tourSaves() {
    PenniesAway x = Texts.with("law 30;road 0 1 5;road 1 2 5;holder 1;holder 2;"
        + "coin silver 0 20;coin silver 0 21;coin silver 1 10;coin silver 1 11;coin gold 0 35;coin forged 0 0;coin old 0 5;coin old 0 6;");
    C.due("tour(1, -2)", x.tour(1, -2), 3);
    C.due("tour(2, -2)", x.tour(2, -2), 1);
    C.due("tour(3, -2)", x.tour(3, -2), 1);
    x.send(0);
    C.due("one under way", x.tour(1, -2), 2);
    x.undo();
    x.days(1);
    C.due("a day later", x.tour(1, -2), 0);
    x = Texts.with("law 40;road 0 1 1;holder 1;coin old 0 20;");
    C.due("late for it", x.tour(1, -2), 0);
    x.days(1);
    C.due("dumb", x.tour(1, -2), 0);
  }

  private static void mint() {
    PenniesAway x = Texts.with(LINE);
    C.due("mint(-1)", x.mint(-1), BAD);
    C.due("mint(2)", x.mint(2), BAD);
    C.due("mint(0)", x.mint(0), 1);
    C.due("mint(1)", x.mint(1), 0);
    x.days(9);
    // 33 and 29 and 25 and 19 days old, dumb is 0; 9 of 15; 29 of 45
    C.due("late()", x.late(), 1 << 1 | 1 << 2 | 1 << 3 | 1 << 4 | 1 << 5);
    C.due("mint(0)", x.mint(0), 2);
    C.due("mint(1)", x.mint(1), 1);
    x = Texts.with("law 5;holder 6;coin silver 0 6;coin silver 0 5;");
    C.due("no way: not late", x.mint(0), 1);
    C.due("mint(1)", x.mint(1), 0);
    // those under way are late as they are
    x = Texts.with("law 5;road 0 1 9;holder 1;coin silver 0 0;coin silver 0 0;");
    x.send(0);
    C.due("mint(0)", x.mint(0), 1);
    C.due("mint(1)", x.mint(1), 1);
    // one on its way out counts the way to the first mint
    x = Texts.with("law 9;road 0 1 5;holder 1;coin silver 0 0;");
    x.send(0);
    x.days(5);
    C.due("mint(1)", x.mint(1), 1);
  }

  private static void sounds() {
    PenniesAway x = Texts.with(LINE);
    C.due("sounds(-1, 0)", x.sounds(-1, 0), BAD);
    C.due("sounds(8, 0)", x.sounds(8, 0), BAD);
    C.due("sounds(1, -1)", x.sounds(1, -1), BAD);
    C.due("sounds(1, 401)", x.sounds(1, 401), BAD);
    C.due("sounds(0, 0)", x.sounds(0, 0), 0);
    C.due("sounds(7, 0)", x.sounds(7, 0), 0);
    C.due("sounds(1, 6)", x.sounds(1, 6), 1);
    C.due("sounds(1, 7)", x.sounds(1, 7), 0);
    C.due("sounds(4, 0)", x.sounds(4, 0), 3);
    C.due("sounds(4, 15)", x.sounds(4, 15), 3);
    C.due("sounds(4, 16)", x.sounds(4, 16), 2);
    C.due("sounds(4, 21)", x.sounds(4, 21), 1);
    C.due("sounds(4, 26)", x.sounds(4, 26), 0);
    x.send(3);
    C.due("one under way", x.sounds(4, 0), 2);
    C.due("nothing changes", x.count(3), 0);
    x = Texts.with("law 5;holder 1;coin forged 0 0;coin silver 0 9;");
    C.due("a forged one never falls dumb; in 0 days none does", x.sounds(1, 0), 2);
    C.due("sounds(1, 1)", x.sounds(1, 1), 1);
    C.due("sounds(1, 400)", x.sounds(1, 400), 1);
    x.days(1);
    C.due("one is dumb", x.sounds(1, 0), 1);
  }

  private static void ear() {
    C.due("ear(-1, ..)", x().ear(-1, 0, 0, 0, 0), BAD);
    C.due("ear(11, ..)", x().ear(11, 0, 0, 0, 0), BAD);
    C.due("ear(0, -1, ..)", x().ear(0, -1, 0, 0, 0), BAD);
    C.due("ear(0, 11, ..)", x().ear(0, 11, 0, 0, 0), BAD);
    C.due("ear(.., -1, ..)", x().ear(0, 0, -1, 0, 0), BAD);
    C.due("ear(.., 4, ..)", x().ear(0, 0, 4, 0, 0), BAD);
    C.due("ear(.., k = -1)", x().ear(0, 0, 3, -1, 0), BAD);
    C.due("ear(.., k above n)", x().ear(5, 5, 2, 3, 0), BAD);
    C.due("ear(.., what 2)", x().ear(5, 5, 2, 1, 2), BAD);
    C.due("ear(.., what -1)", x().ear(5, 5, 2, 1, -1), BAD);
    odds(0, 5, 3, 2, 0, 1);
    odds(10, 5, 3, 2, 1, 1);
    odds(4, 7, 0, 0, 2, 5);
    odds(5, 8, 1, 1, 1, 5);
    odds(5, 8, 1, 0, 4, 5);
    odds(2, 9, 2, 1, 1, 5);
    odds(1, 8, 3, 0, 64, 73);
    odds(1, 8, 3, 3, 1, 577);
    odds(3, 10, 1, 1, 0, 1);
    odds(3, 10, 1, 0, 1, 1);
    odds(3, 0, 1, 1, 1, 1);
    odds(3, 10, 2, 1, 0, 1);
    odds(10, 10, 1, 1, 0, 1);
    odds(0, 10, 1, 0, 0, 1);
  }

  private static void odds(int f, int e, int n, int k, int above, int below) {
    String call = "ear(" + f + ", " + e + ", " + n + ", " + k + ", ";
    C.due(call + "0)", x().ear(f, e, n, k, 0), above);
    C.due(call + "1)", x().ear(f, e, n, k, 1), below);
  }

  private static PenniesAway x() {
    return new PenniesAway();
  }

  private static void images() {
    PenniesAway x = Texts.with(LINE);
    C.due("image(2)", x.image(2), BAD);
    C.due("image(-1)", x.image(-1), BAD);
    C.due("restore(2)", x.restore(2), BAD);
    C.due("restore(0): none kept", x.restore(0), STATE);
    x.send(3);
    x.days(7);
    C.due("image(0)", x.image(0), 1);
    C.due("an image is no act", x.count(4), 2);
    C.due("restore(1): none kept", x.restore(1), STATE);
    C.due("acts stay", x.count(4), 2);
    x.days(99);
    C.due("image(1)", x.image(1), 1);
    C.due("realm()", Texts.read(x, "law 400;holder 7;coin gold 0 1;"), 1);
    C.due("restore(0)", x.restore(0), 1);
    C.due("no act can be undone", x.undo(), STATE);
    C.due("day", x.count(3), 7);
    C.due("coins", x.count(2), 6);
    C.due("holders", x.count(1), 5);
    C.due("far", x.far(0, 4), 20);
    C.due("law", x.coin(5, 5), 45);
    C.due("kind", x.kind(4), 4);
    C.due("left", x.coin(3, 3), 13);
    C.due("dumb", x.count(5), 1);
    x.days(1);
    C.due("restore(0) again", x.restore(0), 1);
    C.due("day", x.count(3), 7);
    C.due("restore(1)", x.restore(1), 1);
    C.due("day", x.count(3), 106);
    C.due("dumb", x.count(5), 6);
    C.due("image(0) anew", x.image(0), 1);
    x.days(1);
    C.due("count(4)", x.count(4), 1);
    x.restore(0);
    C.due("day", x.count(3), 106);
    C.due("count(4)", x.count(4), 0);
    C.due("no act can be undone", x.undo(), STATE);
  }
}
