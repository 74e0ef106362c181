import java.util.Random;

/** Runs of drawn calls, each answered by the class and by the model. No call may throw. */
public final class ModelTest {
  private static final Check C = new Check("ModelTest");
  private static final int[] ODD = {-1, -2, -3, 8, 9, 13, 41, 400, 401, 1000000, Integer.MIN_VALUE, Integer.MAX_VALUE};
  private static final String[] SORTS = {"gold", "silver", "copper", "forged", "old"};

  private final Random random;
  private final PenniesAway x = new PenniesAway();
  private final Model m = new Model();
  private int calls = 0;

  private ModelTest(long seed) {
    random = new Random(seed);
  }

  public static void main(String[] args) {
    int runs = args.length > 0 ? Integer.parseInt(args[0]) : 3000;
    for (int seed = 1; seed <= runs && C.failures() == 0; seed++) {
      new ModelTest(seed).run(seed);
    }
    C.end();
  }

  /** What is answered behind the 512th call is free: the dearest turn that is drawn has 104 calls. */
  private void run(int seed) {
    read();
    int nextText = 120;
    while (calls <= 512 - 104 && C.failures() == 0) {
      if (calls >= nextText) {
        read();
        nextText += 120;
      } else {
        due(seed, calls);
      }
    }
  }

  private void same(String call, int got, int want) {
    calls++;
    C.due(call, got, want);
  }

  private void read() {
    String text = text();
    if (random.nextInt(8) == 0 && text.length() > 0) {
      int at = random.nextInt(text.length());
      String in = "0;9 a\n$1".charAt(random.nextInt(8)) + "";
      text = text.substring(0, at) + in + text.substring(at + random.nextInt(2));
    }
    text = text.substring(0, Math.min(500, text.length()));
    for (int at = 0; at < text.length(); at += 8) {
      String part = text.substring(at, Math.min(text.length(), at + 8));
      long w = random.nextLong();
      for (int i = 0; i < part.length(); i++) {
        w = w << 8 | part.charAt(i);
      }
      same("feed", x.feed(w, part.length()), m.feed(w, part.length()));
    }
    same("realm of '" + text + "'", x.realm(), m.realm());
    same("fault of '" + text + "'", x.fault(), m.fault());
  }

  private String text() {
    StringBuilder t = new StringBuilder("law ").append(pick(1, 90)).append(';');
    for (int n = pick(0, 10); n > 0; n--) {
      int a = pick(0, 7);
      t.append("road ").append(a).append(' ').append((a + pick(1, 7)) % 8).append(' ').append(pick(1, 20)).append(";");
    }
    int holders = pick(1, 6);
    int towns = pick(1, 7);
    for (int n = 0; n < holders; n++) {
      t.append("holder ").append(pick(1, towns)).append(";");
    }
    for (int n = pick(0, 12); n > 0; n--) {
      t.append("coin ").append(SORTS[pick(0, 4)]).append(' ').append(pick(0, holders - 1)).append(' ')
          .append(random.nextInt(12) == 0 ? 400 : pick(0, 60)).append(";");
    }
    return t.toString();
  }

  private int pick(int least, int most) {
    return least + random.nextInt(most - least + 1);
  }

  /** Mostly as told, now and then not. */
  private int arg(int least, int most) {
    return random.nextInt(25) == 0 ? ODD[random.nextInt(ODD.length)] : pick(least, most);
  }

  private void due(int seed, int at) {
    int a = arg(0, 7), b = arg(0, 5), c = arg(0, 11), d = arg(0, 3), n = arg(0, 12);
    String s = "seed " + seed + " call " + at + ": ";
    switch (random.nextInt(38)) {
      case 0: { int lane = arg(0, 2); same(s + "row", x.row(a, lane, n), m.row(a, lane, n)); break; }
      case 1: same(s + "set", x.set(a, d, c), m.set(a, d, c)); break;
      case 2: { int v = random.nextInt(); same(s + "set", x.set(a, b, v), m.set(a, b, v)); break; }
      case 3: same(s + "copy", x.copy(a, d, b, d, b), m.copy(a, d, b, d, b)); break;
      case 4: { int j = arg(0, 4); same(s + "copy", x.copy(b, d, b, j, d), m.copy(b, d, b, j, d)); break; }
      case 5: if (random.nextInt(3) == 0) same(s + "drop", x.drop(a), m.drop(a)); break;
      case 6: same(s + "pass", x.pass(c, b), m.pass(c, b)); break;
      case 7: same(s + "pass", x.pass(b, d), m.pass(b, d)); break;
      case 8: same(s + "send", x.send(c), m.send(c)); break;
      case 9: same(s + "send", x.send(b), m.send(b)); break;
      case 10: same(s + "sendAll", x.sendAll(a, d, b), m.sendAll(a, d, b)); break;
      case 11: same(s + "days", x.days(c), m.days(c)); break;
      case 12: same(s + "days", x.days(b), m.days(b)); break;
      case 13: { int l = random.nextInt(12) == 0 ? arg(1, 99) : 1; same(s + "days", x.days(l), m.days(l)); break; }
      case 14: { int f = arg(1, 999999); same(s + "flood", x.flood(f), m.flood(f)); break; }
      case 15: same(s + "undo", x.undo(), m.undo()); break;
      case 16: for (int u = pick(0, 30); u > 0; u--) same(s + "undo", x.undo(), m.undo()); break;
      case 17: same(s + "coin", x.coin(c, a), m.coin(c, a)); break;
      case 18: same(s + "far", x.far(a, b), m.far(a, b)); break;
      case 19: same(s + "late", x.late(), m.late()); break;
      case 20: { int k = arg(1, 60); same(s + "mustGo", x.mustGo(k), m.mustGo(k)); break; }
      case 21: same(s + "save", x.save(n), m.save(n)); break;
      case 22: case 23: { int h = arg(0, 63), k = arg(-3, 6); same(s + "tour", x.tour(h, k), m.tour(h, k)); break; }
      case 24: { int h = arg(1, 7); same(s + "tour", x.tour(h, -2), m.tour(h, -2)); break; }
      case 25: { int w = arg(0, 1); same(s + "mint", x.mint(w), m.mint(w)); break; }
      case 26: { int l = arg(0, 60); same(s + "sounds", x.sounds(a, l), m.sounds(a, l)); break; }
      case 27: same(s + "sounds", x.sounds(a, d), m.sounds(a, d)); break;
      case 28: { int f = arg(0, 10), e = arg(0, 10), w = arg(0, 1), k = arg(0, 3);
        same(s + "ear", x.ear(f, e, d, k, w), m.ear(f, e, d, k, w)); break; }
      case 29: { int k = arg(0, 1); same(s + "image", x.image(k), m.image(k)); break; }
      case 30: { int k = arg(0, 1); if (random.nextInt(3) == 0) same(s + "restore", x.restore(k), m.restore(k)); break; }
      case 31: same(s + "kind", x.kind(c), m.kind(c)); break;
      case 32: same(s + "as", x.as(c, b), m.as(c, b)); break;
      case 33: { int w = arg(0, 1); same(s + "ask", x.ask(c, w), m.ask(c, w)); break; }
      case 34: same(s + "trace", x.trace(a), m.trace(a)); break;
      case 35: same(s + "count", x.count(a), m.count(a)); break;
      case 36: same(s + "status", x.status(), m.status()); break;
      default: all(s); break;
    }
  }

  /** All that can be asked of the state, but what is foretold. */
  private void all(String s) {
    for (int c = 0; c < 12; c++) {
      for (int what = 0; what < 8; what++) {
        same(s + "coin(" + c + ", " + what + ")", x.coin(c, what), m.coin(c, what));
      }
    }
    for (int what = 0; what < 8; what++) {
      same(s + "count(" + what + ")", x.count(what), m.count(what));
    }
  }
}
