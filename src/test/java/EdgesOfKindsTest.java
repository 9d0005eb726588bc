/** Promises 22 to 26, sentence by sentence where one names an edge: rate, keep, back, count, trace; and refusals that meet. */
final class EdgesOfKindsTest {
  public static void main(String[] args) {
    rateOfTheLeastWorker();
    rateOfTheGreatestWorker();
    rateBelowNone();
    rateTracesEachBodyOnce();
    rateTracesAsOftenAsItIsAsked();
    rateRefused();
    keepAnswersHowMuchHearsay();
    keepAgain();
    keepLeavesAll();
    keepRefused();
    backWhereNoneWasKept();
    backOfTheEmptiestAndTheFullest();
    backAgain();
    backLeavesWhatIsNotKept();
    imagesAreTwo();
    imagesAreGoneBehindHill();
    backRefused();
    countLeastAndMost();
    countRefused();
    traceIsNoneAtFirst();
    traceGoesOn();
    badAheadOfState();
    badAheadOfFull();
    Due.close("EdgesOfKindsTest");
  }

  private static void rates(String what, QuietYards y, int w, int... rates) {
    for (int kind = 0; kind < 6; kind++) Due.same(what + ", kind " + kind, y.rate(kind, w), rates[kind]);
  }

  // ---- promise 22

  /** Section 4, RATE: yard 0, noise 1, kind 0, worth 0. */
  private static void rateOfTheLeastWorker() {
    rates("least", Due.told("worker 0 1 0 0;"), 0, 1, 1, 1, 2, -2, 1);
  }

  /** Section 4, RATE: yard 47, noise 99, kind 4, worth 99, the last of six. */
  private static void rateOfTheGreatestWorker() {
    QuietYards y = Due.told("hill 8 6;" + "worker 0 1 0 0;".repeat(5) + "worker 47 99 4 99;");
    rates("greatest", y, 5, 99, 198, 146, 292, 195, 103);
    rates("the first beside it", y, 0, 1, 1, 1, 2, -2, 1);
  }

  /** "NO: what none is, where a number may be below 0": DRUMMED less FADE, from 1 to 9. */
  private static void rateBelowNone() {
    QuietYards y = Due.told("worker 0 2 0 3;");
    for (int fade = 1; fade <= 9; fade++) {
      y.fade(fade);
      Due.same("fade " + fade, y.rate(4, 0), 5 - fade);
    }
    y = Due.told("worker 0 1 0 0;");
    y.fade(9);
    Due.same("the least rate", y.rate(4, 0), -8);
    y = Due.told("worker 0 2 0 0;");
    Due.same("-1 is a rate", y.rate(4, 0), -1);
    Due.same("and is traced", y.trace(), 10011);
  }

  /** Section 4, "(numbers in brackets are added to THE TRACE .. each once)": a body each, with those above it. */
  private static void rateTracesEachBodyOnce() {
    int[] traces = {1, 11, 101, 1101, 10011, 100001};
    for (int kind = 0; kind < 6; kind++) {
      QuietYards y = Due.told("worker 3 50 2 9;");
      y.rate(kind, 0);
      Due.same("trace of kind " + kind, y.trace(), traces[kind]);
    }
  }

  /** Section 4, "as often as rate() asks that body": again and again, without an end below that of calls. */
  private static void rateTracesAsOftenAsItIsAsked() {
    QuietYards y = Due.told("worker 3 50 2 9;");
    for (int i = 1; i <= 480; i++) y.rate(5, 0);
    Due.same("480 times MANY", y.trace(), 480L * 100001);
    long trace = 0;
    y = Due.told("worker 3 50 2 9;");
    int[] traces = {1, 11, 101, 1101, 10011, 100001};
    for (int times = 1; times <= 3; times++) {
      for (int kind = 5; kind >= 0; kind--) {
        for (int i = 0; i < times; i++) y.rate(kind, 0);
        trace += (long) times * traces[kind];
        Due.same("kind " + kind + " as well", y.trace(), trace);
      }
    }
  }

  /** Promise 22, "NO: BAD": no such kind, no such worker, neither; nothing is traced. */
  private static void rateRefused() {
    for (int kind : Edge.outside(0, 5)) {
      Edge.refused("rate kind " + kind, Edge.NO, y -> y.rate(kind, 0));
      Edge.refused("rate kind " + kind + " of nobody", Edge.NO, y -> y.rate(kind, -1));
    }
    for (Edge.Made made : Edge.Made.values()) {
      for (int w : Edge.outside(0, made.workers - 1)) {
        for (int kind = 0; kind < 6; kind++) {
          int as = kind;
          Edge.refused(made, "rate " + kind + " of worker " + w, Edge.NO, y -> y.rate(as, w));
        }
      }
    }
  }

  // ---- promise 23

  /** Promise 23, "how much HEARSAY there is": none to six. */
  private static void keepAnswersHowMuchHearsay() {
    for (int n = 0; n <= 6; n++) {
      QuietYards y = new QuietYards();
      for (int i = 0; i < n; i++) y.hear(i, i);
      Due.same("keep 0 of " + n, y.keep(0), n);
      Due.same("keep 1 of " + n, y.keep(1), n);
      Due.same("there it stays", y.count(4), n);
      y.forget();
      Due.same("back to " + n, y.back(1), n);
    }
  }

  /** Promise 23: kept again, an image is the later one. */
  private static void keepAgain() {
    QuietYards y = Due.told("hill 2 1;worker 0 20 0 0;");
    y.build(0, 1, 0, 3);
    y.build(0, 1, 1, 9);
    y.wind(2, 2);
    y.hear(0, 1);
    y.keep(0);
    y.build(0, 1, 0, 0);
    y.build(0, 1, 1, 0);
    y.wind(0, 0);
    y.forget();
    Due.same("kept again, empty", y.keep(0), 0);
    y.build(0, 1, 0, 1);
    y.hear(0, 2);
    Due.same("back", y.back(0), 0);
    Due.same("no walls", y.count(6), 0);
    Due.same("no felt", y.count(7), 0);
    Due.same("no wind", y.loud(0, 1), 17);
    Due.same("all sets", y.who(0), 2);
  }

  /** Promise 23: nothing but the image changes. */
  private static void keepLeavesAll() {
    for (Edge.Made made : Edge.Made.values()) {
      QuietYards kept = made.make();
      kept.keep(0);
      kept.keep(1);
      Due.same("all behind keep of " + made, Edge.now(kept), Edge.now(made.make()));
    }
  }

  /** Promise 23, "BAD"; section 4, "IMAGES 0, 1". */
  private static void keepRefused() {
    for (int image : Edge.outside(0, 1)) Edge.refused("keep " + image, Edge.BAD, y -> y.keep(image));
  }

  // ---- promise 24

  /** Promise 24, "STATE: none was kept": neither, or the other alone; nothing changes. */
  private static void backWhereNoneWasKept() {
    Edge.refused(Edge.Made.NEW, "back to 0", Edge.STATE, y -> y.back(0));
    Edge.refused(Edge.Made.NEW, "back to 1", Edge.STATE, y -> y.back(1));
    Edge.refused(Edge.Made.ONE, "back to 0, 1 was kept", Edge.STATE, y -> y.back(0));
    Edge.refused(Edge.Made.MOST, "back to 1, 0 was kept", Edge.STATE, y -> y.back(1));
  }

  /** Promise 24, "All of that becomes as an IMAGE has it": from all that may be to none, and from none to all. */
  private static void backOfTheEmptiestAndTheFullest() {
    QuietYards y = Due.told("hill 3 2;worker 0 40 0 0;");
    y.keep(0);
    String empty = ground(y);
    for (int a = 0; a < 6; a++) {
      for (int what = 0; what < 2; what++) {
        if (a % 3 < 2) y.build(a, a + 1, what, what == 0 ? 3 : 9);
        if (a < 3) y.build(a, a + 3, what, what == 0 ? 3 : 9);
      }
    }
    y.wind(-2, -2);
    for (int i = 0; i < 6; i++) y.hear(i, 999);
    y.keep(1);
    String full = ground(y);
    Due.same("to none", y.back(0), 0);
    Due.same("as kept first", ground(y), empty);
    Due.same("to all", y.back(1), 6);
    Due.same("as kept then", ground(y), full);
    Due.same("it is full again", y.hear(0, 0), Edge.FULL);
  }

  private static String ground(QuietYards y) {
    StringBuilder seen = new StringBuilder();
    for (int what = 0; what < 8; what++) seen.append(y.count(what)).append(' ');
    for (int what = 0; what < 2; what++) {
      for (int a = 0; a < 6; a++) seen.append(y.between(a, a + 1, what)).append(' ').append(y.between(a, a + 3, what)).append(' ');
    }
    for (int yard = 0; yard < 6; yard++) seen.append(y.loud(0, yard)).append(' ');
    return seen.append(y.who(0)).toString();
  }

  /** Promise 24: an image stays kept, and is not changed by what comes behind back(). */
  private static void backAgain() {
    QuietYards y = Due.told("hill 2 1;worker 0 20 0 0;");
    y.hear(0, 20);
    y.keep(1);
    for (int i = 0; i < 3; i++) {
      Due.same("back", y.back(1), 1);
      Due.same("no walls", y.between(0, 1, 0), 0);
      Due.same("one set", y.who(0), 1);
      y.build(0, 1, 0, 3);
      y.build(0, 1, 1, i);
      y.wind(1, 1);
      y.forget();
      y.hear(1, 5);
      y.hear(1, 6);
    }
  }

  /** Section 4, "keep all WALLS and FELT, WIND, HEARSAY; nothing else": FADE, THE TEXT, THE TRACE, the other image stay. */
  private static void backLeavesWhatIsNotKept() {
    QuietYards y = Due.told("hill 3 1;worker 0 20 0 4;deed 2 1 3 5 6;");
    y.keep(0);
    y.build(0, 1, 0, 2);
    y.keep(1);
    y.fade(9);
    Due.type(y, "wind up 1;");
    y.rate(0, 0);
    Due.same("back", y.back(0), 0);
    Due.same("fade", y.fade(3), 9);
    Due.same("text", y.count(5), 10);
    Due.same("trace", y.trace(), 1);
    Due.same("worker", y.worker(0, 3), 4);
    Due.same("deed", y.deed(0, 5), 14);
    Due.same("the other image", y.back(1), 0);
    Due.same("has its walls", y.between(0, 1, 0), 2);
    Due.same("the text is read", y.hill(), 1);
  }

  /** Section 4, "IMAGES 0, 1": each by itself. */
  private static void imagesAreTwo() {
    for (int image = 0; image < 2; image++) {
      QuietYards y = Due.told("hill 2 1;");
      y.build(0, 1, 1, 9);
      Due.same("keep " + image, y.keep(image), 0);
      Due.same("the other is none", y.back(1 - image), Edge.STATE);
      y.build(0, 1, 1, 8);
      y.keep(1 - image);
      Due.same("back to " + image, y.back(image), 0);
      Due.same("nine", y.between(0, 1, 1), 9);
      y.back(1 - image);
      Due.same("eight", y.between(0, 1, 1), 8);
    }
  }

  /** Section 4, "(Read anew: .. IMAGES are gone"; promise 4: but not behind a fault. */
  private static void imagesAreGoneBehindHill() {
    QuietYards y = new QuietYards();
    y.keep(0);
    y.keep(1);
    Due.same("a fault", Due.tell(y, "hill"), -14);
    Due.same("0 is there", y.back(0), 0);
    Due.same("1 is there", y.back(1), 0);
    Due.same("read", Due.tell(y, ""), 0);
    Due.same("0 is gone", y.back(0), Edge.STATE);
    Due.same("1 is gone", y.back(1), Edge.STATE);
    Due.same("kept anew", y.keep(1), 0);
    Due.same("1 is there again", y.back(1), 0);
    Due.same("0 is not", y.back(0), Edge.STATE);
  }

  /** Promise 24, "BAD": no such image, kept or not. */
  private static void backRefused() {
    for (int image : Edge.outside(0, 1)) Edge.refused("back " + image, Edge.BAD, y -> y.back(image));
  }

  // ---- promise 25

  /** Promise 25: each count at its least and at its greatest. */
  private static void countLeastAndMost() {
    QuietYards least = Due.told("hill 1 1;");
    int[] ones = {1, 1, 0, 0, 0, 0, 0, 0};
    for (int what = 0; what < 8; what++) Due.same("least " + what, least.count(what), ones[what]);
    QuietYards most = Due.told("hill 8 6;" + "worker 0 1 0 0;".repeat(6) + "deed 0 0 0 0 0;".repeat(8));
    for (int a = 0; a < 48; a++) {
      for (int what = 0; what < 2; what++) {
        if (a % 8 < 7) most.build(a, a + 1, what, what == 0 ? 3 : 9);
        if (a < 40) most.build(a, a + 8, what, what == 0 ? 3 : 9);
      }
    }
    for (int i = 0; i < 6; i++) most.hear(47, 999);
    Due.type(most, "?".repeat(400));
    int[] counts = {8, 6, 6, 8, 6, 400, 246, 738};
    for (int what = 0; what < 8; what++) Due.same("most " + what, most.count(what), counts[what]);
  }

  /** Promise 25, "BAD". */
  private static void countRefused() {
    for (int what : Edge.outside(0, 7)) Edge.refused("count " + what, Edge.BAD, y -> y.count(what));
  }

  // ---- promise 26

  /** Section 4, "THE TRACE, 0 at first": other calls add nothing. */
  private static void traceIsNoneAtFirst() {
    QuietYards y = new QuietYards();
    Due.same("at first", y.trace(), 0);
    Due.tell(y, "worker 0 20 4 9;deed 1 0 11 5 5;");
    Due.same("behind hill", y.trace(), 0);
    y.best(0, 1, 0);
    y.plan(0, 1, 0);
    y.saw(50, 0, 1);
    y.loud(0, 5);
    y.who(2);
    y.price(0, 0);
    Due.same("behind others", y.trace(), 0);
    Due.same("asked again", y.trace(), 0);
  }

  /** Section 4, "THE TRACE goes on, as behind back()": behind hill(), read or refused, and behind back(). */
  private static void traceGoesOn() {
    QuietYards y = Due.told("worker 0 20 4 9;");
    y.keep(0);
    y.rate(2, 0);
    Due.same("101", y.trace(), 101);
    y.back(0);
    Due.same("behind back", y.trace(), 101);
    y.rate(1, 0);
    Due.same("goes on", y.trace(), 112);
    Due.same("a fault", Due.tell(y, "?"), -10);
    Due.same("behind a fault", y.trace(), 112);
    Due.same("read anew", Due.tell(y, "worker 1 2 3 4;"), 1);
    Due.same("behind hill", y.trace(), 112);
    y.rate(0, 0);
    Due.same("and on", y.trace(), 113);
  }

  // ---- refusals that meet

  /** "Refused .. the first of these: BAD .., STATE": no such image, and none was kept. */
  private static void badAheadOfState() {
    for (int image : Edge.outside(0, 1)) Edge.refused(Edge.Made.NEW, "back " + image, Edge.BAD, y -> y.back(image));
  }

  /** "Refused .. the first of these: BAD .., FULL": 400 bytes are there, or nearly, and n is wrong, too. */
  private static void badAheadOfFull() {
    for (int n : Edge.outside(1, 8)) {
      Edge.refused(Edge.Made.MOST, "a full text, n " + n, Edge.BAD, y -> y.type(32, n));
      QuietYards y = new QuietYards();
      Due.type(y, " ".repeat(396));
      Due.same("nearly full, n " + n, y.type(32, n), Edge.BAD);
      Due.same("none came", y.count(5), 396);
    }
    Edge.refused(Edge.Made.MOST, "a full text, n 1", Edge.FULL, y -> y.type(32, 1));
    Edge.refused(Edge.Made.MOST, "a full text, n 8", Edge.FULL, y -> y.type(32, 8));
  }
}
