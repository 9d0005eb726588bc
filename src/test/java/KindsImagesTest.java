/** Promises 22 to 26: rates by kinds and the trace, images, counts. */
final class KindsImagesTest {
  private static final int[] WRONG = {Integer.MIN_VALUE, -1, Integer.MAX_VALUE};

  public static void main(String[] args) {
    rates();
    ratesRefused();
    keepAndBack();
    windIsKept();
    imagesAreTwo();
    imagesRefused();
    backIsHeard();
    counts();
    constants();
    Due.close("KindsImagesTest");
  }

  private static void rates() {
    QuietYards y = Due.told("worker 7 50 3 20;worker 11 1 4 0;");
    int[] rates = {50, 70, 57, 114, 67, 53};
    int[] traces = {1, 11, 101, 1101, 10011, 100001};
    long trace = 0;
    for (int kind = 0; kind < 6; kind++) {
      Due.same("kind " + kind, y.rate(kind, 0), rates[kind]);
      trace += traces[kind];
      Due.same("trace behind kind " + kind, y.trace(), trace);
    }
    int[] others = {1, 1, 12, 24, -2, 5};
    for (int kind = 0; kind < 6; kind++) Due.same("other kind " + kind, y.rate(kind, 1), others[kind]);
    Due.same("twice all", y.trace(), 2 * trace);
    y.fade(9);
    Due.same("below 0", y.rate(4, 1), -8);
    y.fade(1);
    Due.same("less fade 1", y.rate(4, 0), 69);
    y.wind(2, 2);
    y.build(7, 6, 0, 3);
    Due.same("in its own yard", y.rate(0, 0), 50);
    long most = y.trace();
    for (int i = 0; i < 200; i++) y.rate(5, 0);
    Due.same("200 more", y.trace(), most + 200 * 100001L);
  }

  private static void ratesRefused() {
    QuietYards y = Due.told("worker 0 9 0 9;");
    Due.same("kind 6", y.rate(6, 0), -1000000);
    Due.same("worker 1", y.rate(0, 1), -1000000);
    for (int wrong : WRONG) {
      Due.same("kind " + wrong, y.rate(wrong, 0), -1000000);
      Due.same("worker " + wrong, y.rate(0, wrong), -1000000);
    }
    Due.same("nothing is traced", y.trace(), 0);
    Due.same("nobody", new QuietYards().rate(0, 0), -1000000);
  }

  private static void keepAndBack() {
    QuietYards y = Due.told("hill 3 1;wall 0 1 1;felt 1 2 2;wind right 1;worker 0 60 0 5;worker 2 20 1 6;deed 1 0 11 10 3;");
    y.hear(1, 29);
    Due.same("kept with one", y.keep(0), 1);
    String kept = Due.seen(y);
    y.build(0, 1, 0, 3);
    y.build(1, 2, 1, 9);
    y.wind(-2, 2);
    y.forget();
    y.hear(0, 1);
    y.hear(0, 2);
    Due.type(y, "abc");
    y.rate(0, 0);
    Due.same("back to one", y.back(0), 1);
    Due.same("walls", y.between(0, 1, 0), 1);
    Due.same("felt", y.between(1, 2, 1), 2);
    Due.same("wind", y.loud(0, 1), 29);
    Due.same("hearsay", y.who(0), 1);
    Due.same("who", y.who(1), 1);
    Due.same("the text is not kept", y.clear(), 3);
    Due.same("the trace is not kept", y.trace(), 1);
    QuietYards same = Due.told("hill 3 1;wall 0 1 1;felt 1 2 2;wind right 1;worker 0 60 0 5;worker 2 20 1 6;deed 1 0 11 10 3;");
    same.hear(1, 29);
    same.rate(0, 0);
    Due.same("all of it", Due.seen(y), Due.seen(same));
    Due.same("but the trace as kept", Due.seen(y).replace("trace 1", "trace 0"), kept);
    y.fade(7);
    Due.same("back again", y.back(0), 1);
    Due.same("fade is not kept", y.fade(3), 7);
  }

  private static void windIsKept() {
    QuietYards y = Due.told("worker 5 50 0 0;");
    y.wind(1, -2);
    y.keep(1);
    y.wind(-1, 2);
    y.back(1);
    Due.same("to the right", y.loud(0, 6), 48);
    Due.same("up", y.loud(0, 1), 49);
  }

  private static void imagesAreTwo() {
    QuietYards y = Due.told("hill 2 1;worker 0 50 0 0;");
    y.build(0, 1, 0, 1);
    Due.same("keep none", y.keep(0), 0);
    Due.same("1 is not kept", y.back(1), -2);
    y.build(0, 1, 0, 2);
    y.hear(1, 1);
    Due.same("keep one", y.keep(1), 1);
    Due.same("back to 0", y.back(0), 0);
    Due.same("one wall", y.between(0, 1, 0), 1);
    Due.same("back to 1", y.back(1), 1);
    Due.same("two walls", y.between(0, 1, 0), 2);
    y.build(0, 1, 0, 3);
    Due.same("0 anew", y.keep(0), 1);
    y.build(0, 1, 0, 0);
    y.back(0);
    Due.same("three walls", y.between(0, 1, 0), 3);
    y.back(1);
    Due.same("1 stays", y.between(0, 1, 0), 2);
    for (int i = 2; i <= 6; i++) y.hear(1, i);
    Due.same("keep six", y.keep(0), 6);
    y.forget();
    Due.same("back to six", y.back(0), 6);
    Due.same("full again", y.hear(0, 0), -3);
  }

  private static void imagesRefused() {
    QuietYards y = Due.told("hill 2 1;wall 0 1 2;worker 0 50 0 0;");
    Due.same("none", y.back(0), -2);
    Due.same("image 2", y.keep(2), -1);
    Due.same("image 2 back", y.back(2), -1);
    for (int wrong : WRONG) {
      Due.same("keep " + wrong, y.keep(wrong), -1);
      Due.same("back " + wrong, y.back(wrong), -1);
    }
    Due.same("still none", y.back(1), -2);
    Due.same("walls stay", y.between(0, 1, 0), 2);
    y.keep(1);
    Due.same("a fault leaves images", Due.tell(y, "?"), -10);
    Due.same("back", y.back(1), 0);
    Due.same("a text takes them", Due.tell(y, ""), 0);
    Due.same("gone", y.back(1), -2);
  }

  private static void backIsHeard() {
    QuietYards y = Due.told("hill 3 1;worker 0 40 0 9;worker 2 12 0 2;deed 1 0 11 20 5;");
    y.keep(0);
    y.build(0, 1, 0, 1);
    Due.same("free with a wall", y.plan(0, 0, 0), 1);
    Due.same("day", y.day(0), 108);
    y.back(0);
    Due.same("broken again", y.broken(0, 1), 1);
    Due.same("plan", y.plan(0, 0, 0), 2);
    Due.same("day again", y.day(0), 24);
    Due.same("heard", y.heard(1, 3), 46);
    Due.same("best", y.best(0, 0, 1), 108);
  }

  private static void counts() {
    QuietYards y = Due.told("hill 5 2;wall 0 1 3;wall 4 9 2;felt 0 1 9;felt 8 9 4;worker 0 1 0 0;worker 0 1 0 0;deed 0 0 0 0 0;");
    y.hear(0, 0);
    y.type(0, 7);
    int[] counts = {5, 2, 2, 1, 1, 7, 5, 13};
    for (int what = 0; what < 8; what++) Due.same("count " + what, y.count(what), counts[what]);
    Due.same("count 8", y.count(8), -1);
    for (int wrong : WRONG) Due.same("count " + wrong, y.count(wrong), -1);
    StringBuilder text = new StringBuilder("hill 8 6;");
    QuietYards full = Due.told(text.toString());
    for (int a = 0; a < 48; a++) {
      if (a % 8 < 7) full.build(a, a + 1, 0, 3);
      if (a < 40) full.build(a, a + 8, 0, 3);
      if (a % 8 < 7) full.build(a, a + 1, 1, 9);
      if (a < 40) full.build(a, a + 8, 1, 9);
    }
    Due.same("all walls that can be", full.count(6), 82 * 3);
    Due.same("all felt that can be", full.count(7), 82 * 9);
  }

  private static void constants() {
    Due.same("BAD", QuietYards.BAD, -1);
    Due.same("STATE", QuietYards.STATE, -2);
    Due.same("FULL", QuietYards.FULL, -3);
    Due.same("NONE", QuietYards.NONE, -9);
    Due.same("NO", QuietYards.NO, -1000000);
  }
}
