/** Long runs of made-up calls, answered by the class and by the model alike. */
final class ModelTest {
  private static final int RUNS = 400, CALLS = 500;
  private static long seed = 20261119;

  private static QuietYards yards;
  private static Model model;
  private static int run;
  private static int calls;

  public static void main(String[] args) {
    for (run = 0; run < RUNS; run++) {
      yards = new QuietYards();
      model = new Model();
      calls = 0;
      while (calls < CALLS - 50) {
        tellHill();
        for (int i = below(60); i >= 0 && calls < CALLS; i--) oneCall(below(26));
      }
    }
    Due.close("ModelTest");
  }

  private static int below(int n) {
    seed = seed * 6364136223846793005L + 1442695040888963407L;
    return (int) ((seed >>> 33) % n);
  }

  /** Mostly a number that may be, now and then one that may not. */
  private static int some(int least, int most) {
    int[] odd = {least - 1, most + 1, Integer.MIN_VALUE, Integer.MAX_VALUE};
    return below(25) == 0 ? odd[below(4)] : least + below(most - least + 1);
  }

  private static int yard() {
    return some(0, model.count(0) * model.count(1) - 1);
  }

  private static int set() {
    return below(6) == 0 ? below(1 << 30) * (below(3) - 1) : below(64);
  }

  private static void due(String call, long got, long want) {
    calls++;
    Due.same("run " + run + " call " + calls + " " + call, got, want);
  }

  // ---- texts

  private static void tellHill() {
    if (below(4) > 0) due("clear", yards.clear(), model.clear());
    String text = madeText();
    for (int at = 0; at < text.length(); at += 8) {
      int n = Math.min(8, text.length() - at);
      long v = below(1000);
      for (int i = 0; i < n; i++) v = v << 8 | text.charAt(at + i);
      due("type", yards.type(v, n), model.type(v, n));
    }
    due("hill of " + text, yards.hill(), model.hill());
  }

  private static String madeText() {
    StringBuilder text = new StringBuilder();
    int wide = 4;
    int high = 3;
    if (below(5) > 0) {
      wide = 1 + below(below(3) == 0 ? 8 : 4);
      high = 1 + below(below(3) == 0 ? 6 : 3);
      text.append("hill ").append(wide).append(' ').append(high).append(';');
    }
    int yardsInAll = wide * high;
    for (int i = below(18); i > 0; i--) {
      switch (below(7)) {
        case 0: border(text, "wall ", yardsInAll, wide, 4); break;
        case 1: border(text, "felt ", yardsInAll, wide, 10); break;
        case 2: text.append("wind").append(new String[] {" right", " left", "  up ", " down"}[below(4)]).append(below(3)); break;
        case 3: case 4: item(text, "worker", below(yardsInAll), 1 + below(below(2) == 0 ? 99 : 30), below(5), below(100)); break;
        default: int first = below(12);
          item(text, "deed", below(Math.min(yardsInAll, 5)), first, first + below(12 - first), below(30), below(100)); break;
      }
      text.append(below(8) == 0 ? " ; " : ";");
    }
    if (below(4) == 0) spoil(text);
    return text.toString();
  }

  private static void border(StringBuilder text, String word, int yardsInAll, int wide, int most) {
    int a = below(yardsInAll);
    int b = below(2) == 0 && (a + 1) % wide != 0 ? a + 1 : a + wide < yardsInAll ? a + wide : a - wide;
    if (below(12) == 0) b = below(yardsInAll + 1);
    if (b < 0) b = 0;
    boolean turned = below(2) == 0;
    item(text, word, turned ? b : a, turned ? a : b, below(most));
  }

  private static void item(StringBuilder text, String word, int... numbers) {
    text.append(word);
    for (int i = 0; i < numbers.length; i++) text.append(i > 0 || below(2) == 0 ? " " : "").append(numbers[i]);
  }

  private static void spoil(StringBuilder text) {
    if (text.length() == 0) return;
    int at = below(text.length());
    String signs = " ;09az\t:/`{A\0" + (char) 128 + (char) 255;
    switch (below(4)) {
      case 0: text.deleteCharAt(at); break;
      case 1: text.insert(at, signs.charAt(below(signs.length()))); break;
      case 2: text.setCharAt(at, signs.charAt(below(signs.length()))); break;
      default: text.setLength(at); break;
    }
  }

  // ---- calls

  private static void oneCall(int which) {
    switch (which) {
      case 0: case 1: case 2: build(); break;
      case 3: { int a = some(-2, 2), b = some(-2, 2); due("wind " + a + " " + b, yards.wind(a, b), model.wind(a, b)); break; }
      case 4: { int v = some(1, 9); due("fade " + v, yards.fade(v), model.fade(v)); break; }
      case 5: { int w = some(0, 5), q = some(0, 3); due("worker " + w + " " + q, yards.worker(w, q), model.worker(w, q)); break; }
      case 6: { int d = some(0, 7), q = some(0, 5); due("deed " + d + " " + q, yards.deed(d, q), model.deed(d, q)); break; }
      case 7: case 8: { int w = some(0, 5), y = yard(); due("loud " + w + " " + y, yards.loud(w, y), model.loud(w, y)); break; }
      case 9: { int y = yard(), s = set(); due("heard " + y + " " + s, yards.heard(y, s), model.heard(y, s)); break; }
      case 10: { int h = some(0, 11), s = set(); due("broken " + h + " " + s, yards.broken(h, s), model.broken(h, s)); break; }
      case 11: case 12: plan(); break;
      case 13: { int p = some(0, 1); due("day " + p, yards.day(p), model.day(p)); break; }
      case 14: if (below(4) == 0) best(); break;
      case 15: saw(); break;
      case 16: case 17: hear(); break;
      case 18: if (below(3) == 0) due("forget", yards.forget(), model.forget()); break;
      case 19: { int q = some(0, 2); due("who " + q, yards.who(q), model.who(q)); break; }
      case 20: { int h = some(0, 11), q = some(0, 1); due("price " + h + " " + q, yards.price(h, q), model.price(h, q)); break; }
      case 21: { int k = some(0, 5), w = some(0, 5); due("rate " + k + " " + w, yards.rate(k, w), model.rate(k, w)); break; }
      case 22: { int i = some(0, 1); due("keep " + i, yards.keep(i), model.keep(i)); break; }
      case 23: { int i = some(0, 1); due("back " + i, yards.back(i), model.back(i)); break; }
      case 24: { int q = some(0, 7); due("count " + q, yards.count(q), model.count(q)); break; }
      default: due("trace", yards.trace(), model.trace()); break;
    }
  }

  private static int besideOf(int a) {
    int wide = model.count(0);
    int[] sides = {1, -1, wide, -wide};
    return below(10) == 0 ? yard() : a + sides[below(4)];
  }

  private static void build() {
    int a = yard(), b = besideOf(a), q = some(0, 1), n = some(0, q == 0 ? 3 : 9);
    due("between " + a + " " + b + " " + q, yards.between(a, b, q), model.between(a, b, q));
    due("build " + a + " " + b + " " + q + " " + n, yards.build(a, b, q, n), model.build(a, b, q, n));
  }

  private static void plan() {
    int h = some(0, 11), p = some(0, 1), q = some(0, 1);
    due("plan " + h + " " + p + " " + q, yards.plan(h, p, q), model.plan(h, p, q));
  }

  private static void best() {
    int k = some(0, 1), p = some(0, 1), q = some(0, 1);
    due("best " + k + " " + p + " " + q, yards.best(k, p, q), model.best(k, p, q));
  }

  private static void saw() {
    int n = below(2) == 0 ? some(1, 30) : some(1, 99), h = some(0, 11), q = some(0, 1);
    due("saw " + n + " " + h + " " + q, yards.saw(n, h, q), model.saw(n, h, q));
  }

  /** Half of what is told could have been heard. */
  private static void hear() {
    int y = yard(), loud = below(2) == 0 ? model.heard(y, below(64)) : some(0, 999);
    due("hear " + y + " " + loud, yards.hear(y, loud), model.hear(y, loud));
  }
}
