/** Feeds texts, and makes objects with a realm in them. */
final class Texts {
  static final int NULL = -1000011, PLACE = -1000012, KIND = -1000013, SIZE = -1000014, STORE = -1000015;

  /** Six coins; town 5 cannot be reached, holders 1 and 4 share town 2. */
  static final String SMALL = "law 40;road 0 1 10;road 1 2 7;road 0 3 25;road 2 3 3;"
      + "holder 1;holder 2;holder 3;holder 5;holder 2;"
      + "coin gold 0 45;coin silver 1 20;coin copper 1 30;coin forged 2 5;coin old 2 0;coin silver 3 39;";

  private Texts() {
  }

  /** What the last feed answered. */
  static int feed(PenniesAway x, String text) {
    int answer = 0;
    for (int at = 0; at < text.length(); at += 8) {
      String part = text.substring(at, Math.min(text.length(), at + 8));
      long w = 0;
      for (int i = 0; i < part.length(); i++) {
        w = w << 8 | part.charAt(i);
      }
      answer = x.feed(w, part.length());
    }
    return answer;
  }

  static int read(PenniesAway x, String text) {
    feed(x, text);
    return x.realm();
  }

  static PenniesAway with(String text) {
    PenniesAway x = new PenniesAway();
    if (read(x, text) < 0) {
      throw new IllegalStateException("a faulty text in a test: " + text);
    }
    return x;
  }
}
