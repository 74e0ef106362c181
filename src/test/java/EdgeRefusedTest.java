/** The order of refusals, and that what is refused, found, or foretold changes nothing: each call that can be, against a twin. */
public final class EdgeRefusedTest {
  private static final Check C = new Check("EdgeRefusedTest");
  private static final int BAD = PenniesAway.BAD, STATE = PenniesAway.STATE, FULL = PenniesAway.FULL;
  private static final int NULL = Texts.NULL, PLACE = Texts.PLACE, KIND = Texts.KIND, SIZE = Texts.SIZE, STORE = Texts.STORE;
  private static final int MIN = Edge.MIN, MAX = Edge.MAX;
  /** Coins: 0 silver, 1 forged, 2 silver, 3 old, 4 gold, 5 silver without a way, 6 copper. */
  private static final String LIVE = "law 10;road 0 1 3;road 0 2 4;holder 1;holder 1;holder 2;holder 7;"
      + "coin silver 0 0;coin forged 0 0;coin silver 1 0;coin old 1 5;coin gold 2 0;coin silver 3 0;coin copper 2 2;";

  public static void main(String[] args) {
    C.sentence("What is refused, or found, changes nothing but status(): rows");
    rowsRefused(new Twins(C, EdgeRefusedTest::lively));
    C.sentence("What is refused, or found, changes nothing but status(): rows, with no REALM");
    rowsRefused(new Twins(C, EdgeRefusedTest::withoutRealm));
    C.sentence("What is refused, or found, changes nothing but status(): realms, acts");
    actsRefused(new Twins(C, EdgeRefusedTest::lively));
    C.sentence("What is refused, or found, changes nothing but status(): sendAll");
    sendAllRefused(new Twins(C, EdgeRefusedTest::lively));
    C.sentence("What is refused, or found, changes nothing but status(): foretold");
    foretoldRefused(new Twins(C, EdgeRefusedTest::lively));
    C.sentence("What is refused, or found, changes nothing but status(): asked");
    askedRefused(new Twins(C, EdgeRefusedTest::lively));
    C.sentence("What is refused changes nothing: no REALM, ahead of BAD or behind it");
    refusedWithoutRealm(new Twins(C, EdgeRefusedTest::withoutRealm));
    C.sentence("What is refused changes nothing: FULL");
    full();
    C.sentence("FORETOLD (nothing changes)");
    foretold(new Twins(C, EdgeRefusedTest::lively));
    C.sentence("what is told changes nothing: coin, far, kind, count, trace, fault, status");
    told(new Twins(C, EdgeRefusedTest::lively));
    C.sentence("an act and its undo() leave all as it was");
    undone(new Twins(C, EdgeRefusedTest::lively));
    C.end();
  }

  /** One coin is with its holder, one lost, one out, one dumb, one going home, one without a way; rows of all lanes; a tape. */
  private static int lively(PenniesAway x) {
    Texts.read(x, "law 0;");
    Texts.read(x, LIVE);
    x.send(1);
    x.send(2);
    x.days(3);
    x.send(4);
    x.image(0);
    x.pass(0, 1);
    x.flood(10);
    x.ask(3, 0);
    Edge.lay(x, 0, 0, 6, 0, 5);
    Edge.lay(x, 1, 1, 0, 6);
    Edge.lay(x, 2, 2, 0, 1, 2, 7);
    Edge.lay(x, 4, 2, 9);
    x.row(3, 2, 0);
    x.as(0, 5);
    return Texts.feed(x, "law 9;holder 3;coin go");
  }

  private static int withoutRealm(PenniesAway x) {
    Texts.read(x, "law 0;");
    Edge.lay(x, 0, 0, 6, 0, 5);
    Edge.lay(x, 1, 1, 0, 6);
    Edge.lay(x, 2, 2, 0, 1, 2, 7);
    Edge.lay(x, 4, 2, 9);
    x.row(3, 2, 0);
    x.row(3, 2, -1);
    return Texts.feed(x, "law 9;holder 3;coin go");
  }

  private static void rowsRefused(Twins t) {
    t.refused("row(-1, 0, 1)", BAD, x -> x.row(-1, 0, 1));
    t.refused("row(8, 0, 1)", BAD, x -> x.row(8, 0, 1));
    t.refused("row(0, -1, 1)", BAD, x -> x.row(0, -1, 1));
    t.refused("row(0, 3, 1)", BAD, x -> x.row(0, 3, 1));
    t.refused("row(0, 0, 41)", BAD, x -> x.row(0, 0, 41));
    t.refused("row(7, 0, MAX)", BAD, x -> x.row(7, 0, MAX));
    t.refused("row(8, 0, -1), ahead of SIZE", BAD, x -> x.row(8, 0, -1));
    t.refused("row(0, 3, -1), ahead of SIZE", BAD, x -> x.row(0, 3, -1));
    t.refused("row(0, 1, -1)", SIZE, x -> x.row(0, 1, -1));
    t.refused("row(7, 1, MIN)", SIZE, x -> x.row(7, 1, MIN));
    t.refused("set(-1, 0, 9)", BAD, x -> x.set(-1, 0, 9));
    t.refused("set(8, 0, 9)", BAD, x -> x.set(8, 0, 9));
    t.refused("set(7, 0, 9)", NULL, x -> x.set(7, 0, 9));
    t.refused("set(7, -1, 9), ahead of PLACE", NULL, x -> x.set(7, -1, 9));
    t.refused("set(0, -1, 9)", PLACE, x -> x.set(0, -1, 9));
    t.refused("set(0, 3, 9)", PLACE, x -> x.set(0, 3, 9));
    t.refused("set(3, 0, 9)", PLACE, x -> x.set(3, 0, 9));
    t.refused("copy(8, 0, 7, 0, 1), ahead of NULL", BAD, x -> x.copy(8, 0, 7, 0, 1));
    t.refused("copy(7, 0, -1, 0, 1), ahead of NULL", BAD, x -> x.copy(7, 0, -1, 0, 1));
    t.refused("copy(7, 0, 2, 0, 1)", NULL, x -> x.copy(7, 0, 2, 0, 1));
    t.refused("copy(2, -1, 7, 0, 1), ahead of PLACE", NULL, x -> x.copy(2, -1, 7, 0, 1));
    t.refused("copy(0, 0, 1, 0, 1)", STORE, x -> x.copy(0, 0, 1, 0, 1));
    t.refused("copy(2, 0, 0, 0, 1)", STORE, x -> x.copy(2, 0, 0, 0, 1));
    t.refused("copy(1, 5, 2, 9, -1), ahead of PLACE", STORE, x -> x.copy(1, 5, 2, 9, -1));
    t.refused("copy(2, 1, 4, 0, 2)", PLACE, x -> x.copy(2, 1, 4, 0, 2));
    t.refused("copy(4, 0, 2, 3, 2)", PLACE, x -> x.copy(4, 0, 2, 3, 2));
    t.refused("copy(2, 0, 2, 1, 4)", PLACE, x -> x.copy(2, 0, 2, 1, 4));
    t.refused("copy(2, -1, 2, 0, 1)", PLACE, x -> x.copy(2, -1, 2, 0, 1));
    t.refused("copy(2, 0, 2, -1, 1)", PLACE, x -> x.copy(2, 0, 2, -1, 1));
    t.refused("copy(2, 0, 2, 1, -1)", PLACE, x -> x.copy(2, 0, 2, 1, -1));
    t.refused("drop(-1)", BAD, x -> x.drop(-1));
    t.refused("drop(8)", BAD, x -> x.drop(8));
    t.refused("drop(7)", NULL, x -> x.drop(7));
  }

  private static void actsRefused(Twins t) {
    t.refused("feed(-1, 0)", BAD, x -> x.feed(-1, 0));
    t.refused("feed(-1, 9)", BAD, x -> x.feed(-1, 9));
    t.refused("feed(-1, MIN)", BAD, x -> x.feed(-1, MIN));
    t.refused("pass(-1, 0)", BAD, x -> x.pass(-1, 0));
    t.refused("pass(7, 0)", BAD, x -> x.pass(7, 0));
    t.refused("pass(0, -1)", BAD, x -> x.pass(0, -1));
    t.refused("pass(0, 4)", BAD, x -> x.pass(0, 4));
    t.refused("pass(0, 1), his own", BAD, x -> x.pass(0, 1));
    t.refused("pass(4, 2), his own, ahead of STATE", BAD, x -> x.pass(4, 2));
    t.refused("pass(0, 2), another TOWN", STATE, x -> x.pass(0, 2));
    t.refused("pass(2, 0), out", STATE, x -> x.pass(2, 0));
    t.refused("pass(4, 0), home", STATE, x -> x.pass(4, 0));
    t.refused("pass(1, 1), lost", STATE, x -> x.pass(1, 1));
    t.refused("send(-1)", BAD, x -> x.send(-1));
    t.refused("send(7)", BAD, x -> x.send(7));
    t.refused("send(5), no way", STATE, x -> x.send(5));
    t.refused("send(4), home", STATE, x -> x.send(4));
    t.refused("send(2), out", STATE, x -> x.send(2));
    t.refused("send(1), lost", STATE, x -> x.send(1));
    t.refused("days(0)", BAD, x -> x.days(0));
    t.refused("days(100)", BAD, x -> x.days(100));
    t.refused("days(-1)", BAD, x -> x.days(-1));
    t.refused("flood(0)", BAD, x -> x.flood(0));
    t.refused("flood(1000000)", BAD, x -> x.flood(1000000));
    t.refused("coin(7, 0)", BAD, x -> x.coin(7, 0));
    t.refused("coin(0, 8)", BAD, x -> x.coin(0, 8));
    t.refused("far(8, 0)", BAD, x -> x.far(8, 0));
    t.refused("far(0, -1)", BAD, x -> x.far(0, -1));
    Twins none = new Twins(C, x -> {
      lively(x);
      for (int n = 0; n < 6; n++) {
        x.undo();
      }
      return 0;
    });
    none.refused("undo() of none", STATE, PenniesAway::undo);
  }

  private static void sendAllRefused(Twins t) {
    t.refused("sendAll(-1, 0, 1)", BAD, x -> x.sendAll(-1, 0, 1));
    t.refused("sendAll(8, 0, 1)", BAD, x -> x.sendAll(8, 0, 1));
    t.refused("sendAll(0, 0, 0)", BAD, x -> x.sendAll(0, 0, 0));
    t.refused("sendAll(0, 0, 13), ahead of PLACE", BAD, x -> x.sendAll(0, 0, 13));
    t.refused("sendAll(7, 0, 13), ahead of NULL", BAD, x -> x.sendAll(7, 0, 13));
    t.refused("sendAll(7, 0, 1)", NULL, x -> x.sendAll(7, 0, 1));
    t.refused("sendAll(7, -1, 1), ahead of PLACE", NULL, x -> x.sendAll(7, -1, 1));
    t.refused("sendAll(0, -1, 1)", PLACE, x -> x.sendAll(0, -1, 1));
    t.refused("sendAll(0, 3, 1)", PLACE, x -> x.sendAll(0, 3, 1));
    t.refused("sendAll(0, 0, 4)", PLACE, x -> x.sendAll(0, 0, 4));
    t.refused("sendAll(3, 0, 1)", PLACE, x -> x.sendAll(3, 0, 1));
    t.refused("sendAll(2, 3, 2), ahead of no COIN", PLACE, x -> x.sendAll(2, 3, 2));
    t.refused("sendAll(2, 0, 4), the last is no COIN", BAD, x -> x.sendAll(2, 0, 4));
    t.refused("sendAll(4, 0, 1), no COIN", BAD, x -> x.sendAll(4, 0, 1));
  }

  private static void foretoldRefused(Twins t) {
    t.refused("mustGo(0)", BAD, x -> x.mustGo(0));
    t.refused("mustGo(401)", BAD, x -> x.mustGo(401));
    t.refused("save(-1)", BAD, x -> x.save(-1));
    t.refused("save(13)", BAD, x -> x.save(13));
    t.refused("tour(0, 0)", BAD, x -> x.tour(0, 0));
    t.refused("tour(16, 0)", BAD, x -> x.tour(16, 0));
    t.refused("tour(1, -3)", BAD, x -> x.tour(1, -3));
    t.refused("mint(-1)", BAD, x -> x.mint(-1));
    t.refused("mint(2)", BAD, x -> x.mint(2));
    t.refused("sounds(8, 0)", BAD, x -> x.sounds(8, 0));
    t.refused("sounds(1, 401)", BAD, x -> x.sounds(1, 401));
    t.refused("ear(5, 5, 2, 3, 0)", BAD, x -> x.ear(5, 5, 2, 3, 0));
    t.refused("image(-1)", BAD, x -> x.image(-1));
    t.refused("image(2)", BAD, x -> x.image(2));
    t.refused("restore(-1)", BAD, x -> x.restore(-1));
    t.refused("restore(2)", BAD, x -> x.restore(2));
    t.refused("restore(1), none was kept", STATE, x -> x.restore(1));
  }

  private static void askedRefused(Twins t) {
    t.refused("kind(-1)", BAD, x -> x.kind(-1));
    t.refused("kind(7)", BAD, x -> x.kind(7));
    t.refused("as(7, 0)", BAD, x -> x.as(7, 0));
    t.refused("as(0, 6)", BAD, x -> x.as(0, 6));
    t.refused("as(7, 6), ahead of KIND", BAD, x -> x.as(7, 6));
    t.refused("as(0, 4)", KIND, x -> x.as(0, 4));
    t.refused("as(1, 1)", KIND, x -> x.as(1, 1));
    t.refused("ask(7, 0)", BAD, x -> x.ask(7, 0));
    t.refused("ask(-1, 1)", BAD, x -> x.ask(-1, 1));
    t.refused("ask(0, 2)", BAD, x -> x.ask(0, 2));
    t.refused("ask(0, -1)", BAD, x -> x.ask(0, -1));
    t.refused("trace(-1)", PenniesAway.NONE, x -> x.trace(-1));
    t.refused("trace(16)", PenniesAway.NONE, x -> x.trace(16));
    t.refused("count(8)", BAD, x -> x.count(8));
    t.refused("count(-1)", BAD, x -> x.count(-1));
  }

  private static void refusedWithoutRealm(Twins t) {
    t.refused("pass(0, 1)", BAD, x -> x.pass(0, 1));
    t.refused("send(0)", BAD, x -> x.send(0));
    t.refused("sendAll(0, 0, 1)", STATE, x -> x.sendAll(0, 0, 1));
    t.refused("sendAll(8, 0, 1), ahead of BAD", STATE, x -> x.sendAll(8, 0, 1));
    t.refused("sendAll(7, 0, 1), ahead of NULL", STATE, x -> x.sendAll(7, 0, 1));
    t.refused("sendAll(0, 9, 1), ahead of PLACE", STATE, x -> x.sendAll(0, 9, 1));
    t.refused("days(1)", STATE, x -> x.days(1));
    t.refused("days(0), ahead of BAD", STATE, x -> x.days(0));
    t.refused("flood(1)", STATE, x -> x.flood(1));
    t.refused("flood(0), ahead of BAD", STATE, x -> x.flood(0));
    t.refused("undo()", STATE, PenniesAway::undo);
    t.refused("coin(0, 0)", BAD, x -> x.coin(0, 0));
    t.refused("far(0, 0)", STATE, x -> x.far(0, 0));
    t.refused("far(8, 0), ahead of BAD", STATE, x -> x.far(8, 0));
    t.refused("late()", STATE, PenniesAway::late);
    t.refused("mustGo(0), ahead of BAD", STATE, x -> x.mustGo(0));
    t.refused("save(13), ahead of BAD", STATE, x -> x.save(13));
    t.refused("tour(0, -3), ahead of BAD", STATE, x -> x.tour(0, -3));
    t.refused("mint(2), ahead of BAD", STATE, x -> x.mint(2));
    t.refused("sounds(8, 0), ahead of BAD", STATE, x -> x.sounds(8, 0));
    t.refused("image(0)", STATE, x -> x.image(0));
    t.refused("image(2), BAD ahead", BAD, x -> x.image(2));
    t.refused("restore(0)", STATE, x -> x.restore(0));
    t.refused("restore(2), BAD ahead", BAD, x -> x.restore(2));
    t.refused("kind(0)", BAD, x -> x.kind(0));
    t.refused("as(0, 0)", BAD, x -> x.as(0, 0));
    t.refused("ask(0, 0)", BAD, x -> x.ask(0, 0));
  }

  private static void full() {
    Twins tape = new Twins(C, x -> {
      Texts.read(x, LIVE);
      x.days(1);
      x.image(1);
      return Texts.feed(x, "law 9;holder 3;coin gold 0 3;" + " ".repeat(468) + "co");
    });
    tape.refused("feed(.., 2) where one has room", FULL, x -> x.feed(0x2424, 2));
    tape.refused("feed(.., 8) where one has room", FULL, x -> x.feed(0x2424242424242424L, 8));
    tape.refused("feed(.., 9), BAD ahead", BAD, x -> x.feed(0x2424, 9));
    Twins last = new Twins(C, x -> {
      Texts.read(x, LIVE);
      Edge.live(x, 9998);
      x.send(0);
      x.ask(0, 0);
      return x.image(0);
    });
    last.refused("days(2), beyond the last", FULL, x -> x.days(2));
    last.refused("days(99), beyond the last", FULL, x -> x.days(99));
    last.refused("days(100), BAD ahead", BAD, x -> x.days(100));
  }

  private static void foretold(Twins t) {
    t.unchanged("late()", PenniesAway::late);
    t.unchanged("mustGo(400)", x -> x.mustGo(400));
    t.unchanged("save(12)", x -> x.save(12));
    t.unchanged("tour(7, -1)", x -> x.tour(7, -1));
    t.unchanged("tour(7, -2)", x -> x.tour(7, -2));
    t.unchanged("tour(7, 2)", x -> x.tour(7, 2));
    t.unchanged("tour(15, 0), no way", x -> x.tour(15, 0));
    t.unchanged("mint(0)", x -> x.mint(0));
    t.unchanged("mint(1)", x -> x.mint(1));
    t.unchanged("sounds(1, 400)", x -> x.sounds(1, 400));
    t.unchanged("sounds(2, 9)", x -> x.sounds(2, 9));
    t.unchanged("ear(3, 8, 3, 2, 1)", x -> x.ear(3, 8, 3, 2, 1));
  }

  private static void told(Twins t) {
    for (int what = 0; what < 8; what++) {
      int w = what;
      t.unchanged("coin(0, " + w + ")", x -> x.coin(0, w));
      t.unchanged("count(" + w + ")", x -> x.count(w));
    }
    t.unchanged("far(0, 2)", x -> x.far(0, 2));
    t.unchanged("kind(0)", x -> x.kind(0));
    t.unchanged("trace(0)", x -> x.trace(0));
    t.unchanged("fault()", PenniesAway::fault);
    t.unchanged("status()", PenniesAway::status);
  }

  private static void undone(Twins t) {
    t.unchanged("pass(0, 0), undo()", x -> x.pass(0, 0) + x.undo());
    t.unchanged("send(0), undo()", x -> x.send(0) + x.undo());
    t.unchanged("days(99), undo()", x -> x.days(99) + x.undo());
    t.unchanged("flood(1), undo()", x -> x.flood(1) + x.undo());
  }
}
