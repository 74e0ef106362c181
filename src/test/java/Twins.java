import java.util.ArrayList;
import java.util.List;

/**
 * Two objects that went through the same calls, one of them through one call more: whether all that can be
 * seen of them later is the same. What is seen by calls that change something is seen on twins of its own.
 */
final class Twins {
  /** Calls on an object; what it answers tells of the last. */
  interface Deed {
    int on(PenniesAway x);
  }

  private interface Look {
    void at(PenniesAway x, List<Integer> seen);
  }

  private static final String[] LOOKS = {"what can be asked", "acts", "rows", "tape", "image 0", "image 1", "status"};

  private final Check check;
  private final Deed past;

  Twins(Check check, Deed past) {
    this.check = check;
    this.past = past;
  }

  /** A call with its answer that leaves all as it was; status() becomes the number of a finding. */
  void refused(String call, int due, Deed made) {
    int finding = due <= Texts.NULL && due >= Texts.STORE ? -1000010 - due : -1;
    compare(call, due, made, finding);
  }

  /** A call whose answer does not matter here. */
  void unchanged(String call, Deed made) {
    compare(call, made.on(grown()), made, -1);
  }

  private void compare(String call, int due, Deed made, int finding) {
    Look[] looks = {Twins::asked, Twins::acts, Twins::rows, Twins::tape, (x, s) -> image(x, 0, s), (x, s) -> image(x, 1, s),
        (x, s) -> s.add(x.status())};
    for (int l = 0; l < looks.length; l++) {
      PenniesAway one = grown();
      PenniesAway other = grown();
      check.due(call, made.on(one), due);
      List<Integer> seen = new ArrayList<>();
      List<Integer> want = new ArrayList<>();
      looks[l].at(one, seen);
      looks[l].at(other, want);
      if (LOOKS[l].equals("status") && finding >= 0) {
        check.due(call + " leaves its finding", seen.get(0), finding);
      } else {
        check.holds(call + " leaves as they were: " + LOOKS[l] + ", seen " + seen + ", due " + want, seen.equals(want));
      }
    }
  }

  private PenniesAway grown() {
    PenniesAway x = new PenniesAway();
    past.on(x);
    return x;
  }

  /** All that can be asked of a realm. */
  static List<Integer> seen(PenniesAway x) {
    List<Integer> seen = new ArrayList<>();
    asked(x, seen);
    return seen;
  }

  private static void asked(PenniesAway x, List<Integer> seen) {
    for (int what = 0; what < 8; what++) {
      seen.add(x.count(what));
    }
    coins(x, seen, 8);
    for (int c = 0; c < 12; c++) {
      seen.add(x.kind(c));
    }
    for (int a = 0; a < 8; a++) {
      for (int b = 0; b <= a; b++) {
        seen.add(x.far(a, b));
      }
      seen.add(x.sounds(a, 1));
      seen.add(x.trace(a));
    }
    for (int n = 1; n < 13; n += 3) {
      seen.add(x.mustGo(n));
      seen.add(x.save(n));
    }
    for (int k = -2; k < 4; k++) {
      seen.add(x.tour(7, k));
    }
    seen.add(x.late());
    seen.add(x.mint(0));
    seen.add(x.mint(1));
    seen.add(x.fault());
  }

  private static void coins(PenniesAway x, List<Integer> seen, int parts) {
    for (int c = 0; c < x.count(2); c++) {
      for (int what = 0; what < parts; what++) {
        seen.add(x.coin(c, what));
      }
    }
  }

  private static void acts(PenniesAway x, List<Integer> seen) {
    for (int n = 0; n < 8; n++) {
      seen.add(x.undo());
      seen.add(x.count(3));
      coins(x, seen, 5);
    }
  }

  /** By a realm of twelve coins, for which the tape is emptied first. */
  private static void rows(PenniesAway x, List<Integer> seen) {
    x.realm();
    Texts.read(x, Edge.TWELVE);
    for (int r = 0; r < 8; r++) {
      for (int i = 0; i < 6; i++) {
        seen.add(Edge.item(x, r, i));
      }
      seen.add(x.set(r, 0, 40000));
      seen.add(x.drop(r));
    }
  }

  /** What is on it is read, with a word behind it. */
  private static void tape(PenniesAway x, List<Integer> seen) {
    seen.add(x.count(7));
    seen.add(Texts.read(x, "ld 0 7;"));
    seen.add(x.fault());
    coins(x, seen, 8);
  }

  private static void image(PenniesAway x, int k, List<Integer> seen) {
    seen.add(x.restore(k));
    asked(x, seen);
    seen.add(x.undo());
  }
}
