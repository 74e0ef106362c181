/** The boundary cases of TEXTS and FAULTS: part 1 of the terms, promises 6 to 8, a sentence at a time. */
public final class EdgeTextsTest {
  private static final Check C = new Check("EdgeTextsTest");
  private static final int BAD = PenniesAway.BAD, FULL = PenniesAway.FULL, STATE = PenniesAway.STATE, NONE = PenniesAway.NONE;
  private static final String ROAD = "road 0 1 1;", HOLDER = "holder 1;", COIN = "coin old 0 0;";

  public static void main(String[] args) {
    feedBytes();
    feedLowest();
    tapeRoom();
    feedRefused();
    names();
    figures();
    bytesOfEachSort();
    gaps();
    realmParts();
    law();
    roadTowns();
    roadDays();
    roadRoom();
    roadPair();
    holderTown();
    holderRoom();
    coinSorts();
    coinHolder();
    coinAge();
    coinRoom();
    inPlace();
    inPlaceFresh();
    noneBefore();
    firstToken();
    leastOfOne();
    end();
    firstByte();
    cuts();
    tapeIsEmptyThen();
    allStays();
    latestFault();
    C.end();
  }

  private static void feedBytes() {
    C.sentence("6: The lowest n bytes of w (1 to 8)");
    PenniesAway x = new PenniesAway();
    int has = 0;
    for (int n = 1; n <= 8; n++) {
      has += n;
      C.due("feed(0, " + n + ")", x.feed(0, n), has);
    }
    Edge.refusedOutside(C, "feed(0, v)", 1, 8, BAD, v -> x.feed(0, v));
    C.due("count(7)", x.count(7), has);
  }

  private static void feedLowest() {
    C.sentence("6: the highest of them first, come behind the tape");
    // with letters in the bytes above those that are fed, which would be faults
    String text = "law 12;holder 3;coin gold 0 7;";
    for (int n = 1; n <= 8; n++) {
      PenniesAway x = new PenniesAway();
      for (int at = 0; at < text.length(); at += n) {
        long w = 0x2424242424242424L;
        int fed = Math.min(n, text.length() - at);
        for (int i = 0; i < fed; i++) {
          w = w << 8 | text.charAt(at + i);
        }
        C.due("feed by " + n, x.feed(w, fed), at + fed);
      }
      C.due("realm() fed by " + n, x.realm(), 1);
      C.due("coin(0, 1)", x.coin(0, 1), 7);
      C.due("coin(0, 5)", x.coin(0, 5), 18);
    }
  }

  private static void tapeRoom() {
    C.sentence("part 1: THE TAPE has at most 500 bytes");
    PenniesAway x = new PenniesAway();
    C.due("a text of 500 bytes, fed", Texts.feed(x, "law 9;" + " ".repeat(493) + ";"), 500);
    C.due("the last byte is read", x.realm(), -1000599);
    C.due("fault()", x.fault(), 1);
    C.due("500 bytes again", Texts.feed(x, "law 9;" + " ".repeat(494)), 500);
    C.due("realm()", x.realm(), 0);
    C.due("500 bytes, the end is missing", Texts.feed(x, "law 9" + " ".repeat(495)), 500);
    C.due("the end of a full tape", x.realm(), -1000600);
  }

  private static void feedRefused() {
    C.sentence("6: BAD: n; FULL: none comes");
    for (int n = 1; n <= 8; n++) {
      PenniesAway x = new PenniesAway();
      int room = 500 - n;
      for (int has = 0; has < room; has += Math.min(8, room - has)) {
        x.feed(0x2020202020202020L, Math.min(8, room - has));
      }
      for (int more = n + 1; more <= 8; more++) {
        C.due("feed of " + more + " where " + n + " have room", x.feed(0x2424242424242424L, more), FULL);
        C.due("none came", x.count(7), room);
      }
      C.due("feed of " + n + " where " + n + " have room", x.feed(0x2424242424242424L, n), 500);
      C.due("feed of 1 where none has room", x.feed(0, 1), FULL);
      C.due("BAD ahead of FULL", x.feed(0, 9), BAD);
      C.due("BAD ahead of FULL", x.feed(0, 0), BAD);
      C.due("BAD ahead of FULL", x.feed(0, -1), BAD);
      C.due("count(7)", x.count(7), 500);
      C.due("nothing of a refused feed stands ahead", x.realm(), -1000100 - room);
      C.due("feed on the tape that is empty then", x.feed(0, 8), 8);
    }
  }

  private static void names() {
    C.sentence("part 1: NAMES (letters a to z)");
    fault("laww 1;", 0, 1);
    fault("la 1;", 0, 1);
    fault("aw 1;", 0, 1);
    fault("LAW 1;", 0, 1);
    fault("laW 1;", 0, 1);
    fault("la`w 1;", 0, 1);
    fault("law{ 1;", 3, 1);
    fault("law` 1;", 3, 1);
    fault("lawa 1;", 0, 1);
    fault("lawz 1;", 0, 1);
    fault("law 1;roa 0 1 1;", 6, 1);
    fault("law 1;roadroad 0 1 1;", 6, 1);
    fault("law 1;ro" + (char) 239 + "ad 0 1 1;", 6, 1);
    fault("law 1;holde 1;", 6, 1);
    fault("law 1;holders 1;", 6, 1);
    fault("law 1;" + HOLDER + "coi old 0 0;", 15, 1);
    fault("law 1;" + HOLDER + "coins old 0 0;", 15, 1);
    fault("law 1;" + HOLDER + "coinold 0 0;", 15, 1);
    fault("a".repeat(500), 0, 1);
  }

  private static void figures() {
    C.sentence("part 1: NUMBERS (figures, 3 at most)");
    read("law 1;", 0);
    read("law 12;", 0);
    read("law 123;", 0);
    read("law 001;", 0);
    fault("law 1234;", 4, 1);
    fault("law 0001;", 4, 1);
    fault("law 0000;", 4, 1);
    fault("law " + "9".repeat(400) + ";", 4, 1);
    fault("law 4294967297;", 4, 1);
    fault("law 1 2;", 6, 1);
    fault("law -1;", 4, 1);
    fault("law +1;", 4, 1);
    fault("law 1.0;", 5, 1);
    fault("law /;", 4, 1);
    fault("law :;", 4, 1);
    C.due("a number is all its figures", with("law 123;").days(1), 0);
    C.due("123", with("law 123;" + HOLDER + "coin silver 0 0;").coin(0, 5), 123);
    C.due("012", with("law 012;" + HOLDER + "coin silver 0 0;").coin(0, 5), 12);
    C.due("390", with("law 390;" + HOLDER + "coin silver 0 089;").coin(0, 1), 89);
    // one of four figures is none, wherever a number is wanted
    fault("law 1;road 0001 2 3;", 11, 1);
    fault("law 1;road 1 0002 3;", 13, 1);
    fault("law 1;road 1 2 0003;", 15, 1);
    fault("law 1;holder 0001;", 13, 1);
    fault("law 1;" + HOLDER + "coin old 0000 0;", 24, 1);
    fault("law 1;" + HOLDER + "coin old 0 0000;", 26, 1);
    // and where the text could end
    fault("1234", 0, 1);
    fault("law 1;1234", 6, 1);
    fault("law 1;" + ROAD + "0000", 17, 1);
    fault("law 1;" + HOLDER + "0000", 15, 1);
    fault("law 1;" + HOLDER + COIN + "0000", 28, 1);
  }

  private static void bytesOfEachSort() {
    C.sentence("part 1: TOKENS: NAMES, NUMBERS, SIGNS ; bytes 32 and 10 between");
    for (int b = 0; b < 256; b++) {
      boolean letter = b >= 'a' && b <= 'z', figure = b >= '0' && b <= '9', gap = b == 32 || b == 10;
      char c = (char) b;
      String of = "byte " + b + " ";
      outcome(of + "ahead", c + "law 1;", gap ? -1 : 0);
      outcome(of + "behind a name", "law" + c + "1;", gap || figure ? -1 : letter ? 0 : 3);
      outcome(of + "behind a number", "law 1" + c + ";", gap || figure ? -1 : b == ';' ? 6 : 5);
      outcome(of + "in place of a sign", "law 1 " + c, b == ';' ? -1 : gap ? 7 : 6);
      outcome(of + "at the end", "law 1;" + c, gap ? -1 : 6);
    }
  }

  /** place -1: no fault. */
  private static void outcome(String what, String text, int place) {
    PenniesAway x = new PenniesAway();
    C.due(what, Texts.read(x, text), place < 0 ? 0 : -1000100 - place);
    C.due(what + ", fault()", x.fault(), place < 0 ? 0 : 1);
  }

  private static void gaps() {
    C.sentence("part 1: bytes 32 and 10 between");
    read("law1;road0 1 2;holder1;coin gold0 0;coin old 0 1;", 2);
    read(" \n law \n\n 1 \n ; \n road 0\n1\n2 ; holder\n1;coin\nold\n0\n0\n;\n", 1);
    fault("la w 1;", 0, 1);
    fault("law 1 0;", 6, 1);
    fault("law 1;ro ad 0 1 1;", 6, 1);
    fault("law 1;road 02 1;", 15, 1);
    fault("law 1;" + HOLDER + "coin go ld 0 0;", 20, 1);
  }

  private static void realmParts() {
    C.sentence("part 1: realm: law { road } { holder } { coin }");
    read("law 1;", 0);
    read("law 1;" + ROAD, 0);
    read("law 1;" + HOLDER, 0);
    read("law 1;" + HOLDER + COIN, 1);
    read("law 1;" + ROAD + HOLDER, 0);
    read("law 1;" + ROAD + ROAD + HOLDER + HOLDER + COIN + COIN, 2);
    fault("", 0, 1);
    fault(ROAD, 0, 1);
    fault(HOLDER, 0, 1);
    fault(COIN, 0, 1);
    fault("law 1;law 1;", 6, 1);
    fault("law 1;" + ROAD + "law 1;", 17, 1);
    fault("law 1;" + HOLDER + ROAD, 15, 1);
    fault("law 1;" + HOLDER + "law 1;", 15, 1);
    fault("law 1;" + HOLDER + COIN + ROAD, 28, 1);
    fault("law 1;" + HOLDER + COIN + HOLDER, 28, 1);
    fault("law 1;" + HOLDER + COIN + "law 1;", 28, 1);
    fault("law 1;;", 6, 1);
    fault("law 1;" + ROAD + ";", 17, 1);
    fault("law 1;" + HOLDER + ";", 15, 1);
    fault("law 1;" + HOLDER + COIN + ";", 28, 1);
    fault("law 1;1", 6, 1);
  }

  private static void law() {
    C.sentence("part 1: law: 'law' LEAVE ';' (1 to 400)");
    fault("law 0;", 4, 2);
    fault("law 00;", 4, 2);
    fault("law 000;", 4, 2);
    fault("law 401;", 4, 2);
    fault("law 999;", 4, 2);
    C.due("law 1", with("law 1;" + HOLDER + "coin silver 0 0;").coin(0, 5), 1);
    C.due("law 400", with("law 400;" + HOLDER + "coin silver 0 0;").coin(0, 5), 400);
    fault("law ;", 4, 1);
    fault("law x;", 4, 1);
    fault("law law;", 4, 1);
    fault("law 1 x", 6, 1);
    fault("law 1 1", 6, 1);
  }

  private static void roadTowns() {
    C.sentence("part 1: road: A B (unlike TOWNS 0 to 7)");
    for (int a = 0; a <= 8; a++) {
      for (int b = 0; b <= 8; b++) {
        String text = "law 1;road " + a + " " + b + " 3;";
        if (a == 8) {
          fault(text, 11, 2);
        } else if (b == 8 || a == b) {
          fault(text, 13, 2);
        } else {
          C.due(text, with(text).far(a, b), 3);
        }
      }
    }
    fault("law 1;road 007 07 1;", 15, 2);
    fault("law 1;road 999 0 1;", 11, 2);
    fault("law 1;road 0 999 1;", 13, 2);
    fault("law 1;road a 1 1;", 11, 1);
    fault("law 1;road 0 b 1;", 13, 1);
    fault("law 1;road ;", 11, 1);
    fault("law 1;road 0 ;", 13, 1);
  }

  private static void roadDays() {
    C.sentence("part 1: road: DAYS (1 to 90)");
    C.due("1", with("law 1;road 0 1 1;").far(0, 1), 1);
    C.due("90", with("law 1;road 0 1 90;").far(0, 1), 90);
    fault("law 1;road 0 1 0;", 15, 2);
    fault("law 1;road 0 1 91;", 15, 2);
    fault("law 1;road 0 1 999;", 15, 2);
    fault("law 1;road 0 1 x;", 15, 1);
    fault("law 1;road 0 1;", 14, 1);
    fault("law 1;road 0 1 1 1;", 17, 1);
  }

  private static void roadRoom() {
    C.sentence("part 1: road: 14 at most");
    PenniesAway x = with("law 1;" + ROAD.repeat(13) + "road 6 7 2;");
    C.due("the 14th counts", x.far(6, 7), 2);
    int place = 6 + 14 * 11;
    fault("law 1;" + ROAD.repeat(15), place, 3);
    fault("law 1;" + ROAD.repeat(14) + "road", place, 3);
    fault("law 1;" + ROAD.repeat(14) + " road x", place + 1, 3);
    fault("law 1;" + ROAD.repeat(13) + "road 0 0 1;" + ROAD, place - 4, 2);
    read("law 1;" + ROAD.repeat(14) + HOLDER.repeat(6) + COIN.repeat(12), 12);
  }

  private static void roadPair() {
    C.sentence("part 1: road: of one pair the least counts");
    C.due("the first", with("law 1;road 2 5 4;road 2 5 9;").far(2, 5), 4);
    C.due("the last", with("law 1;road 2 5 9;road 2 5 4;").far(2, 5), 4);
    C.due("the other way round", with("law 1;road 2 5 9;road 5 2 4;").far(2, 5), 4);
    C.due("the one in the middle", with("law 1;road 2 5 9;road 5 2 4;road 2 5 90;").far(5, 2), 4);
    C.due("two that are like", with("law 1;road 2 5 4;road 5 2 4;").far(5, 2), 4);
  }

  private static void holderTown() {
    C.sentence("part 1: holder: 'holder' TOWN ';' (1 to 7)");
    fault("law 1;holder 0;", 13, 2);
    fault("law 1;holder 8;", 13, 2);
    fault("law 1;holder 999;", 13, 2);
    for (int t = 1; t <= 7; t++) {
      PenniesAway x = with("law 9;holder " + t + ";coin old 0 0;");
      for (int u = 0; u <= 7; u++) {
        C.due("holder " + t + ": sounds(" + u + ", 0)", x.sounds(u, 0), u == t ? 1 : 0);
      }
    }
    fault("law 1;holder x;", 13, 1);
    fault("law 1;holder ;", 13, 1);
    fault("law 1;holder 1 2;", 15, 1);
  }

  private static void holderRoom() {
    C.sentence("part 1: HOLDERS 0 .. 5, 6 at most");
    for (int n = 0; n <= 6; n++) {
      C.due(n + " holders", with("law 1;" + HOLDER.repeat(n)).count(1), n);
    }
    fault("law 1;" + HOLDER.repeat(7), 60, 3);
    fault("law 1;" + HOLDER.repeat(6) + "holder 0;", 60, 3);
    fault("law 1;" + HOLDER.repeat(6) + "holder", 60, 3);
    fault("law 1;" + HOLDER.repeat(5) + "holder 0;holder", 58, 2);
  }

  private static void coinSorts() {
    C.sentence("part 1: coin: SORT: 'gold' | 'silver' | 'copper' | 'forged' | 'old'");
    String[] sorts = {"silver", "gold", "copper", "old", "forged"};
    for (int k = 0; k < 5; k++) {
      PenniesAway x = with("law 1;" + HOLDER + "coin " + sorts[k] + " 0 0;");
      C.due(sorts[k], x.kind(0), k + 1);
      fault("law 1;" + HOLDER + "coin " + sorts[k] + "s 0 0;", 20, 1);
      fault("law 1;" + HOLDER + "coin x" + sorts[k].substring(1) + " 0 0;", 20, 1);
      fault("law 1;" + HOLDER + "coin " + sorts[k].substring(0, sorts[k].length() - 1) + " 0 0;", 20, 1);
      fault("law 1;" + HOLDER + "coin " + sorts[k].toUpperCase() + " 0 0;", 20, 1);
    }
    fault("law 1;" + HOLDER + "coin tin 0 0;", 20, 1);
    fault("law 1;" + HOLDER + "coin coin 0 0;", 20, 1);
    fault("law 1;" + HOLDER + "coin 1 0 0;", 20, 1);
    fault("law 1;" + HOLDER + "coin ;", 20, 1);
    fault("law 1;" + HOLDER + "coin", 19, 1);
  }

  private static void coinHolder() {
    C.sentence("part 1: coin: a HOLDER told");
    fault("law 1;coin old 0 0;", 15, 2);
    for (int n = 1; n <= 6; n++) {
      String told = "law 1;" + HOLDER.repeat(n);
      C.due("the last of " + n, with(told + "coin old " + (n - 1) + " 0;").coin(0, 0), n - 1);
      fault(told + "coin old " + n + " 0;", 15 + 9 * n, 2);
      fault(told + "coin old 999 0;", 15 + 9 * n, 2);
    }
    fault("law 1;" + HOLDER + "coin old x 0;", 24, 1);
    fault("law 1;" + HOLDER + "coin old;", 23, 1);
  }

  private static void coinAge() {
    C.sentence("part 1: coin: AGE (0 to 400)");
    C.due("0", with("law 1;" + HOLDER + "coin old 0 0;").coin(0, 1), 0);
    C.due("400", with("law 1;" + HOLDER + "coin old 0 400;").coin(0, 1), 400);
    fault("law 1;" + HOLDER + "coin old 0 401;", 26, 2);
    fault("law 1;" + HOLDER + "coin old 0 999;", 26, 2);
    fault("law 1;" + HOLDER + "coin old 0 x;", 26, 1);
    fault("law 1;" + HOLDER + "coin old 0;", 25, 1);
    fault("law 1;" + HOLDER + "coin old 0 0 0;", 28, 1);
  }

  private static void coinRoom() {
    C.sentence("part 1: COINS 0 .. 11, 12 at most");
    for (int n = 0; n <= 12; n++) {
      PenniesAway x = with("law 1;" + HOLDER + COIN.repeat(n));
      C.due(n + " coins", x.count(2), n);
      C.due("the first that there is not", x.coin(n, 0), BAD);
    }
    int place = 15 + 12 * 13;
    fault("law 1;" + HOLDER + COIN.repeat(13), place, 3);
    fault("law 1;" + HOLDER + COIN.repeat(12) + "coin tin", place, 3);
    fault("law 1;" + HOLDER + COIN.repeat(12) + "coin", place, 3);
    fault("law 1;" + HOLDER + COIN.repeat(11) + "coin old 0 401;coin", place - 13 + 11, 2);
    C.due("coin 11", with("law 1;" + HOLDER + COIN.repeat(11) + "coin gold 0 7;").coin(11, 1), 7);
  }

  private static void inPlace() {
    C.sentence("part 1: A REALM that is read stands in place of the one before");
    PenniesAway x = with("law 100;" + "road 0 1 5;road 1 2 5;" + HOLDER.repeat(6) + "coin gold 5 9;".repeat(12));
    x.send(3);
    C.due("realm()", Texts.read(x, "law 7;road 0 3 2;holder 3;coin copper 0 1;"), 1);
    C.due("holders", x.count(1), 1);
    C.due("coins", x.count(2), 1);
    C.due("no road of before", x.far(0, 1), NONE);
    C.due("its road", x.far(3, 0), 2);
    C.due("its law", x.coin(0, 5), 7);
    C.due("its kind", x.kind(0), 3);
    C.due("no holder of before", x.tour(2, -1), BAD);
    C.due("no coin of before", x.coin(1, 0), BAD);
    C.due("its holder's town", x.sounds(3, 0), 1);
    C.due("none elsewhere", x.sounds(1, 0), 0);
    C.due("an empty one, too", Texts.read(x, "law 1;"), 0);
    C.due("no holders", x.count(1), 0);
    C.due("no coins", x.count(2), 0);
    C.due("it is a realm", x.late(), 0);
    C.due("no roads", x.far(0, 3), NONE);
  }

  private static void inPlaceFresh() {
    C.sentence("part 1: DAY 0, no coin is under way, none is DUMB, no ACT can be undone");
    String text = "law 10;road 0 1 3;holder 1;coin silver 0 0;coin forged 0 0;coin old 0 5;coin silver 0 400;";
    PenniesAway x = new PenniesAway();
    // more than twice: each realm may be read over any that was before
    for (int round = 0; round < 5; round++) {
      C.due("realm()", Texts.read(x, text), 4);
      C.due("the day", x.count(3), 0);
      C.due("acts", x.count(4), 0);
      C.due("dumb", x.count(5), 0);
      C.due("lost", x.count(6), 0);
      C.due("undo()", x.undo(), STATE);
      Edge.coin(C, "fresh", x, 0, 0, 0, 0, 0, 0);
      Edge.coin(C, "fresh", x, 1, 0, 0, 0, 0, 0);
      Edge.coin(C, "fresh", x, 2, 0, 5, 0, 0, 0);
      Edge.coin(C, "fresh, AGE above SPAN", x, 3, 0, 400, 0, 0, 0, 10, -393);
      x.send(0);
      x.send(1);
      x.days(3);
      x.send(2);
      C.due("out, lost, home", x.coin(0, 2) * 100 + x.coin(1, 2) * 10 + x.coin(2, 2), 231);
      C.due("two are dumb", x.count(5), 2);
    }
  }

  private static void noneBefore() {
    C.sentence("part 1: the one before (none at first)");
    PenniesAway x = new PenniesAway();
    C.due("a fault at first", Texts.read(x, "law 0;"), -1000104);
    C.due("there is none yet", x.late(), STATE);
    C.due("image(0)", x.image(0), STATE);
    C.due("then one", Texts.read(x, "law 1;"), 0);
    C.due("late()", x.late(), 0);
  }

  private static void firstToken() {
    C.sentence("part 1: FAULTS, the first TOKEN that has one");
    fault("law 0;road 0 0 0;holder 0;$", 4, 2);
    fault("law 1;road 0 0 0;holder 0;$", 13, 2);
    fault("law 1;road 0 1 0;holder 0;$", 15, 2);
    fault("law 1;road 0 1 1;holder 0;$", 24, 2);
    fault("law 1;road 0 1 1;holder 1;$", 26, 1);
    fault("law 0 $", 4, 2);
    fault("law 0", 4, 2);
    fault("law $ 0;", 4, 1);
    fault("law 1;" + HOLDER.repeat(7) + "$", 60, 3);
    fault("law 1;$" + HOLDER.repeat(7), 6, 1);
  }

  private static void leastOfOne() {
    C.sentence("part 1: of one TOKEN the least: 1 it cannot stand there, or is none; 2 a NUMBER that is not as told; 3 no room");
    // a number that would not be as told anywhere, where none can stand
    fault("law 1 999;", 6, 1);
    fault("999;", 0, 1);
    fault("law 1;999", 6, 1);
    // a number of too many figures is none, though it would be too great, too
    fault("law 9999;", 4, 1);
    fault("law 1;road 0 0000 1;", 13, 1);
    fault("law 1;holder 8888;", 13, 1);
    // a word for which there is no room, where it cannot stand
    fault("law 1;" + ROAD.repeat(14) + HOLDER + "road", 6 + 154 + 9, 1);
    fault("law 1;" + HOLDER.repeat(6) + COIN + "holder", 60 + 13, 1);
    fault("law 1;" + HOLDER + COIN.repeat(12) + "holder", 15 + 156, 1);
    fault("law 1;" + ROAD.repeat(14) + "road road", 6 + 154, 3);
    fault("law 1;" + ROAD.repeat(13) + "road road", 6 + 143 + 5, 1);
  }

  private static void end() {
    C.sentence("part 1: the end: how many bytes there are");
    fault("", 0, 1);
    fault(" ", 1, 1);
    fault("\n\n\n", 3, 1);
    fault("law", 3, 1);
    fault("law  ", 5, 1);
    fault("law 1", 5, 1);
    fault("law 1 \n", 7, 1);
    fault("law 1;road 0 1 1 ", 17, 1);
    fault("law 1;holder", 12, 1);
    fault("law 1;holder 1;coin ", 20, 1);
    fault(" ".repeat(500), 500, 1);
  }

  private static void firstByte() {
    C.sentence("part 1: the place of a FAULT (its first byte)");
    fault("  lax 1;", 2, 1);
    fault("\nlaw   000;", 7, 2);
    fault("law 1;   wood 1;", 9, 1);
    fault("law 1; road 0 1 \n91 ;", 17, 2);
    fault("law 1;\n" + HOLDER.repeat(6) + "\n\nholder 1;", 63, 3);
    fault("law 1; ;", 7, 1);
    fault("law 1  12345;", 7, 1);
  }

  /** Each cut of a text has its own fault, or none: told by what stands ahead of the cut. */
  private static void cuts() {
    C.sentence("part 1: a text that ends too early, at each of its bytes");
    String text = Texts.SMALL;
    String words = " law road holder coin gold silver copper forged old ";
    for (int cut = 0; cut < text.length(); cut++) {
      String ahead = text.substring(0, cut);
      int start = cut;
      while (start > 0 && Character.isLetter(text.charAt(start - 1))) {
        start--;
      }
      boolean whole = ahead.endsWith(";");
      boolean half = start < cut && !words.contains(" " + ahead.substring(start) + " ");
      int place = half ? start : cut;
      PenniesAway x = new PenniesAway();
      int coins = ahead.split("coin ", -1).length - 1;
      C.due("'" + ahead + "'", Texts.read(x, ahead), whole ? coins : -1000100 - place);
      C.due("fault of '" + ahead + "'", x.fault(), whole ? 0 : 1);
    }
  }

  private static void tapeIsEmptyThen() {
    C.sentence("7: The tape, empty then, is read");
    PenniesAway x = new PenniesAway();
    Texts.feed(x, "law 5;holder 2;");
    C.due("realm()", x.realm(), 0);
    C.due("empty behind a realm", x.count(7), 0);
    C.due("realm() of an empty tape", x.realm(), -1000100);
    C.due("a fault", x.fault(), 1);
    C.due("the realm stays", x.count(1), 1);
    Texts.feed(x, "law 5;holder");
    C.due("realm() with a fault", x.realm(), -1000112);
    C.due("empty behind a fault", x.count(7), 0);
    C.due("feed(.., 1)", x.feed(';', 1), 1);
    C.due("nothing of before is left", x.realm(), -1000100);
    Texts.feed(x, "law 5;" + " ".repeat(494));
    C.due("full", x.feed(0, 1), FULL);
    C.due("realm()", x.realm(), 0);
    C.due("there is room again", x.feed(0, 8), 8);
  }

  private static void allStays() {
    C.sentence("7: -1000100 less the place of a FAULT: all stays");
    String[] faulty = {"law 7;road 0 7 1;holder 7;coin gold 0 400;coin gold 0 40", "law", "", "law 401;", "law 3;" + ROAD.repeat(15),
        "law 3;road 0 1 1;road 1 2 1;holder 7;holder 7;coin forged 1 1;coin forged 1 1;;"};
    for (String text : faulty) {
      PenniesAway x = with(Texts.SMALL);
      x.pass(1, 4);
      x.send(0);
      x.days(4);
      x.image(1);
      x.ask(0, 1);
      x.row(2, 1, 3);
      x.as(0, 5);
      C.holds("a fault: '" + text + "'", Texts.read(x, text) <= -1000100);
      int[] counts = {1, 5, 6, 4, 3, 1, 0, 0};
      for (int what = 0; what < 8; what++) {
        C.due("count(" + what + ")", x.count(what), counts[what]);
      }
      Edge.coin(C, "stays", x, 0, 0, 49, 1, 6, 0, 60, 5, 8);
      Edge.coin(C, "stays", x, 1, 4, 24, 0, 0, 0, 40, -1, 0);
      C.due("far(0, 2)", x.far(0, 2), 17);
      C.due("kind(4)", x.kind(4), 4);
      C.due("trace(0)", x.trace(0), 21);
      C.due("status()", x.status(), 3);
      C.due("undo()", x.undo(), 2);
      C.due("undo()", x.undo(), 1);
      C.due("coin(0, 2)", x.coin(0, 2), 0);
      C.due("the image", x.restore(1), 1);
      C.due("coin(0, 3)", x.coin(0, 3), 6);
    }
  }

  private static void latestFault() {
    C.sentence("8: The number of the latest FAULT; 0 before one");
    PenniesAway x = new PenniesAway();
    C.due("0 before one", x.fault(), 0);
    Texts.read(x, "law 1;");
    C.due("0 behind a realm", x.fault(), 0);
    Texts.read(x, "law 1;" + HOLDER.repeat(7));
    C.due("3", x.fault(), 3);
    C.due("told again", x.fault(), 3);
    Texts.read(x, "law 1;");
    C.due("a realm leaves it", x.fault(), 3);
    Texts.read(x, "law 0;");
    C.due("2", x.fault(), 2);
    Texts.read(x, "");
    C.due("1", x.fault(), 1);
    x.image(0);
    x.restore(0);
    C.due("restore() leaves it", x.fault(), 1);
  }

  private static PenniesAway with(String text) {
    return Texts.with(text);
  }

  private static void read(String text, int coins) {
    PenniesAway x = new PenniesAway();
    C.due("'" + text + "'", Texts.read(x, text), coins);
    C.due("fault of '" + text + "'", x.fault(), 0);
  }

  private static void fault(String text, int place, int number) {
    PenniesAway x = new PenniesAway();
    C.due("'" + text + "'", Texts.read(x, text), -1000100 - place);
    C.due("fault of '" + text + "'", x.fault(), number);
  }
}
