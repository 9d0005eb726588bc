import java.nio.charset.StandardCharsets;

/** What the tests share: answers that are due, texts to type, and a look at all that a hill answers. */
final class Due {
  private static int passed = 0;
  private static int failed = 0;

  private Due() {
  }

  static void same(String what, long got, long want) {
    if (got == want) {
      passed++;
    } else {
      failed++;
      System.out.println(what + " answered " + got + ", due is " + want);
    }
  }

  static void same(String what, String got, String want) {
    if (got.equals(want)) {
      passed++;
    } else {
      failed++;
      System.out.println(what + " answered\n  " + got + "\ndue is\n  " + want);
    }
  }

  static void holds(String what, boolean so) {
    same(what, so ? 1 : 0, 1);
  }

  /** Ends the test class; the exit code tells whether all was as due. */
  static void close(String name) {
    System.out.println(name + ": " + passed + " passed, " + failed + " failed");
    if (failed > 0 || passed == 0) System.exit(1);
  }

  /** Types a text, eight bytes a call; the last answer of type(). */
  static int type(QuietYards yards, String text) {
    byte[] bytes = text.getBytes(StandardCharsets.ISO_8859_1);
    int answer = 0;
    for (int at = 0; at < bytes.length; at += 8) {
      int n = Math.min(8, bytes.length - at);
      long v = 0;
      for (int i = 0; i < n; i++) v = v << 8 | bytes[at + i] & 255;
      answer = yards.type(v, n);
    }
    return answer;
  }

  /** Clears the text, types another and reads it: what hill() answers. */
  static int tell(QuietYards yards, String text) {
    yards.clear();
    type(yards, text);
    return yards.hill();
  }

  /** A new object that has read that text. */
  static QuietYards told(String text) {
    QuietYards yards = new QuietYards();
    int items = tell(yards, text);
    if (items < 0) same("hill() of " + text, items, 0);
    return yards;
  }

  /** The fault of a text that is read by a new object. */
  static int fault(String text) {
    return -10 - tell(new QuietYards(), text);
  }

  /** All that can be seen of a hill without changing it, of some 12 yards in fewer than 180 calls. */
  static String seen(QuietYards yards) {
    StringBuilder seen = new StringBuilder();
    for (int what = 0; what < 8; what++) seen.append(yards.count(what)).append(' ');
    int wide = yards.count(0);
    int all = wide * yards.count(1);
    for (int a = 0; a < all; a++) {
      for (int what = 0; what < 2; what++) {
        if ((a + 1) % wide != 0) seen.append(yards.between(a, a + 1, what)).append(',');
        if (a + wide < all) seen.append(yards.between(a, a + wide, what)).append(',');
      }
    }
    for (int w = 0; w < yards.count(2); w++) {
      for (int what = 0; what < 4; what++) seen.append(' ').append(yards.worker(w, what));
      seen.append(' ').append(yards.loud(w, 0)).append(' ').append(yards.loud(w, all - 1));
    }
    for (int d = 0; d < yards.count(3); d++) {
      for (int what = 0; what < 6; what++) seen.append(' ').append(yards.deed(d, what));
    }
    for (int what = 0; what < 3; what++) seen.append(" who ").append(yards.who(what));
    int fade = yards.fade(3);
    yards.fade(fade);
    return seen.append(" fade ").append(fade).append(" trace ").append(yards.trace()).toString();
  }
}
