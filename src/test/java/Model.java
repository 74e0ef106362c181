import java.math.BigInteger;
import java.util.ArrayDeque;
import java.util.ArrayList;
import java.util.Collections;
import java.util.Comparator;
import java.util.List;
import java.util.regex.Matcher;
import java.util.regex.Pattern;

/** The document once more, in another way: lists, copies, whole days lived ahead. */
final class Model {
  static final int NONE = -1000000, BAD = -1000001, STATE = -1000002, FULL = -1000003;

  /** A coin of the model; its kind is its class. */
  static class Penny implements Cloneable {
    int number, holder, age, where, left, leave;
    boolean dumb;
    List<Integer> notes = new ArrayList<>();

    int kind() { return 0; }
    int span() { return leave; }
    boolean forged() { return false; }
    int size() { notes.add(10); return age; }
    int mark() { notes.add(20); return number; }

    Penny twin() {
      try {
        return (Penny) clone();
      } catch (CloneNotSupportedException e) {
        throw new IllegalStateException(e);
      }
    }
  }

  static class Silver extends Penny {
    @Override int kind() { return 1; }
    @Override int size() { notes.add(11); return super.size() + mark(); }
    @Override int mark() { notes.add(21); return super.mark() + span(); }
  }

  static final class Gold extends Silver {
    @Override int kind() { return 2; }
    @Override int span() { return leave * 3 / 2; }
    @Override int size() { notes.add(12); return 0 - super.size(); }
  }

  static class Copper extends Silver {
    @Override int kind() { return 3; }
    @Override int mark() { notes.add(22); return super.mark() - 1000; }
  }

  static final class Old extends Copper {
    @Override int kind() { return 4; }
    @Override int span() { return leave / 2; }
    @Override int size() { notes.add(14); return super.size() * 2; }
    @Override int mark() { notes.add(24); return super.mark() * 2; }
  }

  static final class Forged extends Penny {
    @Override int kind() { return 5; }
    @Override boolean forged() { return true; }
    @Override int size() { notes.add(13); return super.size() - 100; }
    @Override int mark() { notes.add(23); return super.mark() - size(); }
  }

  static final class Land {
    int day = 0;
    List<int[]> roads = new ArrayList<>();
    List<Integer> towns = new ArrayList<>();
    List<Penny> coins = new ArrayList<>();

    Land twin() {
      Land t = new Land();
      t.day = day;
      t.roads = roads;
      t.towns = towns;
      for (Penny p : coins) {
        t.coins.add(p.twin());
      }
      return t;
    }

    /** By walking all roads again and again. */
    int far(int a, int b) {
      int[] days = new int[8];
      java.util.Arrays.fill(days, NONE);
      days[a] = 0;
      for (int round = 0; round < 8; round++) {
        for (int[] r : roads) {
          relax(days, r[0], r[1], r[2]);
          relax(days, r[1], r[0], r[2]);
        }
      }
      return days[b];
    }

    private void relax(int[] days, int from, int to, int length) {
      if (days[from] != NONE && (days[to] == NONE || days[to] > days[from] + length)) {
        days[to] = days[from] + length;
      }
    }

    int town(Penny p) { return towns.get(p.holder); }

    /** second: a second mint's town, 0 for none. */
    int slack(Penny p, int second) {
      if (p.dumb || p.forged() || p.where == 3) {
        return NONE;
      }
      int way = far(town(p), 0);
      int need;
      if (p.where == 0) {
        int other = far(town(p), second);
        need = way == NONE ? other : other == NONE ? way : Math.min(way, other);
      } else if (p.where == 1) {
        need = p.left;
      } else {
        need = p.left + way;
      }
      return need == NONE ? NONE : p.span() - p.age - need;
    }

    int live() {
      day++;
      int fell = 0;
      for (Penny p : coins) {
        if (!p.dumb && p.where != 3) {
          p.age++;
        }
      }
      for (Penny p : coins) {
        if (p.where == 1 || p.where == 2) {
          p.left--;
          if (p.left == 0) {
            arrive(p);
          }
        }
      }
      for (Penny p : coins) {
        if (!p.forged() && !p.dumb && p.age > p.span()) {
          p.dumb = true;
          fell |= 1 << p.number;
        }
      }
      return fell;
    }

    private void arrive(Penny p) {
      if (p.where == 2) {
        p.where = 0;
      } else if (p.dumb || p.forged()) {
        p.where = 3;
      } else {
        p.age = 0;
        p.where = 2;
        p.left = far(0, town(p));
      }
    }
  }

  /** A fault ends the reading. */
  @SuppressWarnings("serial")
  static final class Fault extends RuntimeException {
    final int place, number;

    Fault(int place, int number) {
      this.place = place;
      this.number = number;
    }
  }

  private final List<int[]> rows = new ArrayList<>();
  private final int[] lanes = new int[8];
  private StringBuilder tape = new StringBuilder();
  private Land land = null;
  private final ArrayDeque<Land> acts = new ArrayDeque<>();
  private final Land[] images = new Land[2];
  private List<Integer> notes = new ArrayList<>();
  private int status = 0, fault = 0;

  Model() {
    for (int r = 0; r < 8; r++) {
      rows.add(null);
    }
  }

  private int found(int n) { status = n; return -1000010 - n; }
  private int fine(int answer) { status = 0; return answer; }
  private static boolean in(int v, int least, int most) { return v >= least && v <= most; }
  private Penny penny(int c) { return land != null && in(c, 0, land.coins.size() - 1) ? land.coins.get(c) : null; }

  private void act() {
    acts.addLast(land.twin());
    if (acts.size() > 24) {
      acts.removeFirst();
    }
  }

  int row(int row, int lane, int n) {
    if (!in(row, 0, 7) || !in(lane, 0, 2) || n > 40) return BAD;
    if (n < 0) return found(4);
    rows.set(row, new int[n]);
    lanes[row] = lane;
    return fine(n);
  }

  int set(int row, int i, int v) {
    if (!in(row, 0, 7)) return BAD;
    int[] r = rows.get(row);
    if (r == null) return found(1);
    if (!in(i, 0, r.length - 1)) return found(2);
    int shift = lanes[row] == 0 ? 24 : lanes[row] == 1 ? 16 : 0;
    r[i] = v << shift >> shift;
    return fine(r[i]);
  }

  int copy(int a, int i, int b, int j, int n) {
    if (!in(a, 0, 7) || !in(b, 0, 7)) return BAD;
    if (rows.get(a) == null || rows.get(b) == null) return found(1);
    if (lanes[a] != lanes[b]) return found(5);
    int[] was = rows.get(a).clone();
    long endA = (long) i + n, endB = (long) j + n;
    if (i < 0 || j < 0 || n < 0 || endA > was.length || endB > rows.get(b).length) return found(2);
    for (int k = 0; k < n; k++) {
      rows.get(b)[j + k] = was[i + k];
    }
    return fine(n);
  }

  int drop(int row) {
    if (!in(row, 0, 7)) return BAD;
    int[] r = rows.set(row, null);
    return r == null ? found(1) : fine(r.length);
  }

  int feed(long w, int n) {
    if (!in(n, 1, 8)) return BAD;
    if (tape.length() + n > 500) return FULL;
    StringBuilder low = new StringBuilder();
    for (int i = 0; i < n; i++) {
      low.append((char) (w & 255));
      w >>= 8;
    }
    tape.append(low.reverse());
    return tape.length();
  }

  private static final class Words {
    private final Matcher m;
    private final int end;
    private String token;
    private int at;

    Words(String text) {
      m = Pattern.compile("[a-z]+|[0-9]+|[^ \n]", Pattern.DOTALL).matcher(text);
      end = text.length();
      next();
    }

    void next() {
      boolean more = m.find();
      token = more ? m.group() : "";
      at = more ? m.start() : end;
    }

    void need(String what) {
      if (!token.equals(what)) throw new Fault(at, 1);
      next();
    }

    int number(int least, int most, int unlike) {
      if (!token.matches("[0-9]{1,3}")) throw new Fault(at, 1);
      int v = Integer.parseInt(token);
      if (v < least || v > most || v == unlike) throw new Fault(at, 2);
      next();
      return v;
    }

    boolean begins(String word, int had, int room) {
      if (!token.equals(word)) return false;
      if (had == room) throw new Fault(at, 3);
      next();
      return true;
    }

    Penny sort() {
      Penny p;
      switch (token) {
        case "gold": p = new Gold(); break;
        case "silver": p = new Silver(); break;
        case "copper": p = new Copper(); break;
        case "forged": p = new Forged(); break;
        case "old": p = new Old(); break;
        default: throw new Fault(at, 1);
      }
      next();
      return p;
    }
  }

  private static Land parse(String text) {
    Words w = new Words(text);
    Land l = new Land();
    w.need("law");
    int leave = w.number(1, 400, -1);
    w.need(";");
    while (w.begins("road", l.roads.size(), 14)) {
      int a = w.number(0, 7, -1);
      int b = w.number(0, 7, a);
      l.roads.add(new int[] {a, b, w.number(1, 90, -1)});
      w.need(";");
    }
    while (w.begins("holder", l.towns.size(), 6)) {
      l.towns.add(w.number(1, 7, -1));
      w.need(";");
    }
    while (w.begins("coin", l.coins.size(), 12)) {
      Penny p = w.sort();
      p.number = l.coins.size();
      p.leave = leave;
      p.holder = w.number(0, l.towns.size() - 1, -1);
      p.age = w.number(0, 400, -1);
      w.need(";");
      l.coins.add(p);
    }
    w.need("");
    return l;
  }

  int realm() {
    String text = tape.toString();
    tape = new StringBuilder();
    try {
      land = parse(text);
    } catch (Fault f) {
      fault = f.number;
      return -1000100 - f.place;
    }
    acts.clear();
    return land.coins.size();
  }

  int fault() { return fault; }

  int pass(int coin, int holder) {
    Penny p = penny(coin);
    if (p == null || !in(holder, 0, land.towns.size() - 1) || p.holder == holder) return BAD;
    if (p.where != 0 || !land.towns.get(holder).equals(land.towns.get(p.holder))) return STATE;
    act();
    int had = p.holder;
    p.holder = holder;
    return had;
  }

  int send(int coin) {
    Penny p = penny(coin);
    if (p == null) return BAD;
    int way = land.far(0, land.town(p));
    if (p.where != 0 || way == NONE) return STATE;
    act();
    p.where = 1;
    p.left = way;
    return way;
  }

  int sendAll(int row, int i, int n) {
    if (land == null) return STATE;
    if (!in(row, 0, 7) || !in(n, 1, 12)) return BAD;
    int[] r = rows.get(row);
    if (r == null) return found(1);
    if (i < 0 || i > r.length - n) return found(2);
    for (int k = i; k < i + n; k++) {
      if (penny(r[k]) == null) return BAD;
    }
    int sent = 0;
    for (int k = i; k < i + n; k++) {
      if (send(r[k]) >= 0) sent++;
    }
    return fine(sent);
  }

  int days(int n) {
    if (land == null) return STATE;
    if (!in(n, 1, 99)) return BAD;
    if (land.day + n > 9999) return FULL;
    act();
    int fell = 0;
    for (int d = 0; d < n; d++) {
      fell |= land.live();
    }
    return fell;
  }

  int flood(int seed) {
    if (land == null) return STATE;
    if (!in(seed, 1, 999999)) return BAD;
    act();
    BigInteger x = BigInteger.valueOf(seed);
    int held = 0;
    for (Penny p : land.coins) {
      if (p.where == 1 || p.where == 2) {
        x = x.multiply(BigInteger.valueOf(16807)).mod(BigInteger.valueOf(2147483647));
        int more = x.mod(BigInteger.TEN).intValue();
        p.left += more;
        if (more != 0) held++;
      }
    }
    return held;
  }

  int undo() {
    if (acts.isEmpty()) return STATE;
    land = acts.removeLast();
    return acts.size();
  }

  int coin(int coin, int what) {
    Penny p = penny(coin);
    if (p == null || !in(what, 0, 7)) return BAD;
    int slack = land.slack(p, 0);
    int worth = slack == NONE || slack < 0 || p.span() == 0 ? 0 : 100 * slack / p.span();
    return new int[] {p.holder, p.age, p.where, p.left, p.dumb ? 1 : 0, p.span(), slack, worth}[what];
  }

  int far(int a, int b) {
    if (land == null) return STATE;
    return in(a, 0, 7) && in(b, 0, 7) ? land.far(a, b) : BAD;
  }

  int late() {
    if (land == null) return STATE;
    int bits = 0;
    for (Penny p : land.coins) {
      if (coin(p.number, 6) != NONE && coin(p.number, 6) < 0) bits += 1 << p.number;
    }
    return bits;
  }

  private List<Penny> inTime() {
    List<Penny> list = new ArrayList<>();
    for (Penny p : land.coins) {
      if (p.where == 0 && land.slack(p, 0) >= 0) list.add(p);
    }
    return list;
  }

  int mustGo(int n) {
    if (land == null) return STATE;
    if (!in(n, 1, 400)) return BAD;
    int bits = 0;
    for (Penny p : inTime()) {
      if (land.slack(p, 0) < n) bits += 1 << p.number;
    }
    return bits;
  }

  int save(int k) {
    if (land == null) return STATE;
    if (!in(k, 0, 12)) return BAD;
    List<Penny> list = inTime();
    Land l = land;
    list.sort(Comparator.comparingInt((Penny p) -> l.slack(p, 0)).thenComparingInt(p -> p.number));
    int bits = 0;
    for (int i = 0; i < Math.min(k, list.size()); i++) {
      bits += 1 << list.get(i).number;
    }
    return bits;
  }

  int tour(int holders, int k) {
    if (land == null) return STATE;
    List<Integer> order = new ArrayList<>();
    for (int h = 0; h < 32; h++) {
      if ((holders >>> h & 1) == 1) order.add(h);
    }
    if (order.isEmpty() || order.get(order.size() - 1) >= land.towns.size() || k < -2) return BAD;
    int best = NONE;
    List<Integer> bestOrder = null;
    do {
      int length = lengthOf(order);
      if (length != NONE && (best == NONE || length < best)) {
        best = length;
        bestOrder = new ArrayList<>(order);
      }
    } while (nextOrder(order));
    if (best == NONE) return NONE;
    if (k == -1) return best;
    if (k >= 0) return k < bestOrder.size() ? bestOrder.get(k) : NONE;
    int saves = 0;
    for (Penny p : land.coins) {
      if (p.where == 0 && order.contains(p.holder) && !p.forged() && !p.dumb && p.span() >= p.age + best) saves++;
    }
    return saves;
  }

  private int lengthOf(List<Integer> order) {
    int at = 0;
    int length = 0;
    for (int s = 0; s <= order.size(); s++) {
      int to = s < order.size() ? land.towns.get(order.get(s)) : 0;
      int way = land.far(at, to);
      if (way == NONE) return NONE;
      length += way;
      at = to;
    }
    return length;
  }

  private static boolean nextOrder(List<Integer> order) {
    int i = order.size() - 2;
    while (i >= 0 && order.get(i) > order.get(i + 1)) i--;
    if (i < 0) return false;
    int j = order.size() - 1;
    while (order.get(j) < order.get(i)) j--;
    Collections.swap(order, i, j);
    Collections.reverse(order.subList(i + 1, order.size()));
    return true;
  }

  int mint(int what) {
    if (land == null) return STATE;
    if (!in(what, 0, 1)) return BAD;
    int best = 0;
    int fewest = 99;
    for (int town = 1; town <= 7; town++) {
      int n = 0;
      for (Penny p : land.coins) {
        int slack = land.slack(p, town);
        if (slack != NONE && slack < 0) n++;
      }
      if (n < fewest) {
        fewest = n;
        best = town;
      }
    }
    return what == 0 ? best : fewest;
  }

  /** By living the days on a copy. */
  int sounds(int town, int n) {
    if (land == null) return STATE;
    if (!in(town, 0, 7) || !in(n, 0, 400)) return BAD;
    Land then = land.twin();
    for (int d = 0; d < n; d++) {
      then.live();
    }
    int sounding = 0;
    for (Penny p : land.coins) {
      if (p.where == 0 && land.town(p) == town && !then.coins.get(p.number).dumb) sounding++;
    }
    return sounding;
  }

  /** By counting ten coins, each heard in all ten ways, n times. */
  int ear(int f, int e, int n, int k, int what) {
    if (!in(f, 0, 10) || !in(e, 0, 10) || !in(n, 0, 3) || k < 0 || k > n || !in(what, 0, 1)) return BAD;
    int forged = 0, all = 0;
    int ways = (int) Math.pow(10, n);
    for (int c = 0; c < 10; c++) {
      for (int way = 0; way < ways; way++) {
        int trueRings = 0;
        for (int ring = 0, rest = way; ring < n; ring++, rest /= 10) {
          boolean right = rest % 10 < e;
          boolean isForged = c < f;
          if (right != isForged) trueRings++;
        }
        if (trueRings == k) {
          all++;
          if (c < f) forged++;
        }
      }
    }
    if (forged == 0) return what;
    int g = BigInteger.valueOf(forged).gcd(BigInteger.valueOf(all)).intValue();
    return (what == 0 ? forged : all) / g;
  }

  int image(int k) {
    if (!in(k, 0, 1)) return BAD;
    if (land == null) return STATE;
    images[k] = land.twin();
    return 1;
  }

  int restore(int k) {
    if (!in(k, 0, 1)) return BAD;
    if (images[k] == null) return STATE;
    land = images[k].twin();
    acts.clear();
    return 1;
  }

  int kind(int coin) { return penny(coin) == null ? BAD : penny(coin).kind(); }

  int as(int coin, int kind) {
    Penny p = penny(coin);
    if (p == null || !in(kind, 0, 5)) return BAD;
    Class<?>[] kinds = {Penny.class, Silver.class, Gold.class, Copper.class, Old.class, Forged.class};
    return kinds[kind].isInstance(p) ? fine(coin) : found(3);
  }

  int ask(int coin, int what) {
    Penny p = penny(coin);
    if (p == null || !in(what, 0, 1)) return BAD;
    notes = new ArrayList<>();
    p.notes = notes;
    return what == 0 ? p.size() : p.mark();
  }

  int trace(int i) { return in(i, 0, Math.min(16, notes.size()) - 1) ? notes.get(i) : NONE; }

  int count(int what) {
    if (!in(what, 0, 7)) return BAD;
    int there = 0, dumb = 0, lost = 0;
    for (int[] r : rows) {
      if (r != null) there++;
    }
    if (land != null) {
      for (Penny p : land.coins) {
        if (p.dumb) dumb++;
        if (p.where == 3) lost++;
      }
    }
    return new int[] {there, land == null ? 0 : land.towns.size(), land == null ? 0 : land.coins.size(),
        land == null ? 0 : land.day, acts.size(), dumb, lost, tape.length()}[what];
  }

  int status() { return status; }
}
