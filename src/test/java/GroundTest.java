/** Promises 5 to 10: walls, felt, wind, fade, and what is told of workers and deeds. */
final class GroundTest {
  private static final int[] WRONG = {Integer.MIN_VALUE, -1000, -1, Integer.MAX_VALUE};

  public static void main(String[] args) {
    between();
    betweenRefused();
    build();
    buildRefused();
    wind();
    fade();
    worker();
    deed();
    clash();
    Due.close("GroundTest");
  }

  private static void between() {
    QuietYards y = Due.told("wall 5 6 3;wall 5 9 1;felt 5 6 9;felt 1 5 2;");
    Due.same("walls to the right", y.between(5, 6, 0), 3);
    Due.same("the other way round", y.between(6, 5, 0), 3);
    Due.same("walls below", y.between(9, 5, 0), 1);
    Due.same("none", y.between(4, 5, 0), 0);
    Due.same("felt", y.between(6, 5, 1), 9);
    Due.same("felt above", y.between(5, 1, 1), 2);
    Due.same("no felt", y.between(5, 9, 1), 0);
  }

  private static void betweenRefused() {
    QuietYards y = Due.told("wall 5 6 3;");
    int[][] pairs = {{0, 0}, {0, 2}, {3, 4}, {4, 3}, {0, 5}, {11, 12}, {12, 11}, {8, 12}, {0, -1}, {-1, 0}, {0, -4},
        {Integer.MIN_VALUE, Integer.MAX_VALUE}, {Integer.MAX_VALUE, Integer.MIN_VALUE}, {Integer.MAX_VALUE, 0}};
    for (int[] pair : pairs) {
      Due.same("between " + pair[0] + " " + pair[1], y.between(pair[0], pair[1], 0), -1);
      Due.same("build " + pair[0] + " " + pair[1], y.build(pair[0], pair[1], 0, 1), -1);
    }
    Due.same("what 2", y.between(5, 6, 2), -1);
    for (int wrong : WRONG) Due.same("what " + wrong, y.between(5, 6, wrong), -1);
    QuietYards row = Due.told("hill 8 1;");
    Due.same("no row below", row.between(0, 8, 0), -1);
    Due.same("the last two", row.between(6, 7, 0), 0);
    QuietYards column = Due.told("hill 1 6;wall 2 3 2;");
    Due.same("a column", column.between(3, 2, 0), 2);
    Due.same("two down", column.between(2, 4, 0), -1);
    QuietYards one = Due.told("hill 1 1;");
    Due.same("one yard", one.between(0, 0, 0), -1);
    Due.same("one yard, another", one.between(0, 1, 0), -1);
  }

  private static void build() {
    QuietYards y = Due.told("worker 0 40 0 0;");
    Due.same("loud at first", y.loud(0, 1), 37);
    Due.same("were none", y.build(0, 1, 0, 3), 0);
    Due.same("were 3", y.build(1, 0, 0, 2), 3);
    Due.same("are 2", y.between(0, 1, 0), 2);
    Due.same("felt is its own", y.between(0, 1, 1), 0);
    Due.same("felt was none", y.build(1, 0, 1, 9), 0);
    Due.same("felt was 9", y.build(0, 1, 1, 1), 9);
    Due.same("felt is 1", y.between(1, 0, 1), 1);
    Due.same("walls stay", y.between(1, 0, 0), 2);
    Due.same("below", y.build(8, 4, 0, 1), 0);
    Due.same("below is not to the right", y.between(4, 5, 0), 0);
    Due.same("all walls", y.count(6), 3);
    Due.same("all felt", y.count(7), 1);
    Due.same("gone round by 4 and 5", y.loud(0, 1), 31);
    Due.same("not round any more", y.build(0, 4, 0, 3), 0);
    Due.same("through both walls and the felt", y.loud(0, 1), 8);
    Due.same("torn down", y.build(0, 1, 0, 0), 2);
    Due.same("is gone", y.build(0, 1, 0, 0), 0);
    Due.same("felt alone", y.loud(0, 1), 36);
  }

  private static void buildRefused() {
    QuietYards y = Due.told("wall 0 1 2;felt 0 1 5;worker 0 50 0 3;deed 2 0 3 4 5;");
    String before = Due.seen(y);
    Due.same("walls 4", y.build(0, 1, 0, 4), -1);
    Due.same("felt 10", y.build(0, 1, 1, 10), -1);
    Due.same("what 2", y.build(0, 1, 2, 1), -1);
    for (int wrong : WRONG) {
      Due.same("what " + wrong, y.build(0, 1, wrong, 1), -1);
      Due.same("walls " + wrong, y.build(0, 1, 0, wrong), -1);
      Due.same("felt " + wrong, y.build(0, 1, 1, wrong), -1);
      Due.same("a " + wrong, y.build(wrong, 1, 1, 1), -1);
      Due.same("b " + wrong, y.build(0, wrong, 1, 1), -1);
    }
    Due.same("nothing changes", Due.seen(y), before);
  }

  private static void wind() {
    QuietYards y = Due.told("worker 5 50 0 0;");
    int[] side = {6, 4, 9, 1};
    int[][] cases = {{0, 0, 47, 47, 47, 47}, {2, 0, 49, 45, 47, 47}, {-2, 0, 45, 49, 47, 47}, {0, 2, 47, 47, 49, 45},
        {1, -2, 48, 46, 45, 49}, {-1, 1, 46, 48, 48, 46}};
    for (int[] c : cases) {
      Due.same("wind", y.wind(c[0], c[1]), 1);
      for (int i = 0; i < 4; i++) Due.same("wind " + c[0] + " " + c[1] + " at " + side[i], y.loud(0, side[i]), c[i + 2]);
    }
    String before = Due.seen(y);
    int[] wrongs = {3, -3, Integer.MAX_VALUE, Integer.MIN_VALUE};
    for (int wrong : wrongs) {
      Due.same("right " + wrong, y.wind(wrong, 0), -1);
      Due.same("down " + wrong, y.wind(0, wrong), -1);
    }
    Due.same("nothing changes", Due.seen(y), before);
    Due.same("wind stays", y.loud(0, 9), 48);
  }

  private static void fade() {
    QuietYards y = Due.told("worker 5 50 0 0;");
    Due.same("was 3", y.fade(9), 3);
    Due.same("faded", y.loud(0, 6), 41);
    Due.same("two yards on", y.loud(0, 7), 32);
    Due.same("was 9", y.fade(1), 9);
    Due.same("least", y.loud(0, 7), 48);
    int[] wrongs = {0, 10, -1, Integer.MAX_VALUE, Integer.MIN_VALUE};
    for (int wrong : wrongs) Due.same("fade " + wrong, y.fade(wrong), -1);
    Due.same("stays", y.loud(0, 7), 48);
    Due.same("was 1", y.fade(2), 1);
  }

  private static void worker() {
    QuietYards y = Due.told("worker 11 99 4 0;worker 0 1 0 99;");
    int[][] rows = {{11, 99, 4, 0}, {0, 1, 0, 99}};
    for (int w = 0; w < 2; w++) {
      for (int what = 0; what < 4; what++) Due.same("worker " + w + " " + what, y.worker(w, what), rows[w][what]);
      Due.same("worker what 4", y.worker(w, 4), -1);
      for (int wrong : WRONG) Due.same("worker what " + wrong, y.worker(w, wrong), -1);
    }
    Due.same("worker 2", y.worker(2, 0), -1);
    for (int wrong : WRONG) Due.same("worker " + wrong, y.worker(wrong, 0), -1);
  }

  private static void deed() {
    QuietYards y = Due.told("deed 11 0 11 99 0;deed 0 5 5 0 99;deed 1 2 4 7 8;");
    int[][] rows = {{11, 0, 11, 99, 0, 4095}, {0, 5, 5, 0, 99, 32}, {1, 2, 4, 7, 8, 28}};
    for (int d = 0; d < 3; d++) {
      for (int what = 0; what < 6; what++) Due.same("deed " + d + " " + what, y.deed(d, what), rows[d][what]);
      Due.same("deed what 6", y.deed(d, 6), -1);
      for (int wrong : WRONG) Due.same("deed what " + wrong, y.deed(d, wrong), -1);
    }
    Due.same("deed 3", y.deed(3, 0), -1);
    for (int wrong : WRONG) Due.same("deed " + wrong, y.deed(wrong, 0), -1);
  }

  private static void clash() {
    QuietYards y = Due.told("deed 3 2 5 0 0;deed 4 4 7 0 0;deed 3 4 7 0 0;deed 3 0 11 0 0;deed 3 3 6 0 0;deed 4 7 8 0 0;");
    int[] holds = {60, 240, 192, 3843, 0, 256};
    for (int d = 0; d < 6; d++) Due.same("deed " + d + " holds", y.deed(d, 5), holds[d]);
    Due.same("hours stay as told", y.deed(4, 1) * 100 + y.deed(4, 2), 306);
  }
}
