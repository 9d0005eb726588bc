/** Promises 11 to 13: how loud a worker is, what is heard, what is broken. */
final class SoundTest {
  private static final int[] WRONG = {Integer.MIN_VALUE, -1, 12, Integer.MAX_VALUE};

  public static void main(String[] args) {
    alongARow();
    leastLoss();
    roundabout();
    windingWay();
    allWaysOfSmallHills();
    loudRefused();
    heard();
    broken();
    brokenRefused();
    Due.close("SoundTest");
  }

  private static void alongARow() {
    QuietYards y = Due.told("hill 8 1;wall 2 3 1;wall 3 4 2;felt 4 5 9;felt 3 4 1;worker 1 60 0 0;worker 7 2 0 0;");
    // 60 - 3 = 57; (57 - 3) / 2 = 27; (27 - 3) / 4 - 1 = 5; 5 - 3 - 9 is below 0
    int[] due = {57, 60, 57, 27, 5, 0, 0, 0};
    for (int yard = 0; yard < 8; yard++) Due.same("row " + yard, y.loud(0, yard), due[yard]);
    Due.same("own", y.loud(1, 7), 2);
    Due.same("too low to pass", y.loud(1, 6), 0);
    y.build(2, 3, 0, 3);
    Due.same("three walls: 54 / 8", y.loud(0, 3), 6);
    y.build(2, 3, 0, 2);
    Due.same("two walls: 54 / 4", y.loud(0, 3), 13);
    y.build(2, 3, 1, 9);
    Due.same("walls ahead of felt", y.loud(0, 3), 4);
    y.build(2, 3, 0, 1);
    y.build(2, 3, 1, 0);
    y.wind(-2, 0);
    // 60 - 5 = 55; (55 - 5) / 2 = 25; (25 - 5) / 4 - 1 = 4
    int[] against = {59, 60, 55, 25, 4, 0, 0, 0};
    for (int yard = 0; yard < 8; yard++) Due.same("against " + yard, y.loud(0, yard), against[yard]);
    y.wind(0, 2);
    Due.same("wind across does nothing", y.loud(0, 2), 57);
  }

  private static void leastLoss() {
    QuietYards y = Due.told("hill 3 3;worker 4 10 0 0;");
    y.fade(1);
    y.wind(2, -2);
    Due.same("by 1 at least", y.loud(0, 5), 9);
    Due.same("against: 1 + 2", y.loud(0, 3), 7);
    Due.same("up", y.loud(0, 1), 9);
    Due.same("down", y.loud(0, 7), 7);
    y.wind(1, 1);
    Due.same("1 less 1", y.loud(0, 8), 8);
    y.fade(2);
    y.wind(2, 0);
    Due.same("2 less 2", y.loud(0, 5), 9);
    Due.same("2 and 2", y.loud(0, 3), 6);
  }

  private static void roundabout() {
    // a comb: the only open way from 0 to 1 goes through all yards
    QuietYards y = Due.told("hill 3 3;wall 0 1 3;wall 3 4 3;wall 4 5 3;wall 4 7 3;wall 1 2 0;wall 5 8 0;worker 0 99 0 0;");
    Due.same("round through six borders", y.loud(0, 1), 99 - 7 * 3);
    Due.same("then down", y.loud(0, 4), 99 - 8 * 3);
    y.build(1, 2, 0, 1);
    Due.same("half", y.loud(0, 1), (99 - 7 * 3) / 2);
    y.wind(0, 2);
    // 0 down to 6: 98, 97; right: 94, 91; up: 86, 81; left through the wall: 78 / 2
    Due.same("with the wind", y.loud(0, 1), 39);
  }

  /** A way that winds through a big hill, and is louder to its end than any that goes through walls. */
  private static void windingWay() {
    QuietYards y = Due.told("hill 8 6;worker 47 99 0 0;");
    y.fade(1);
    for (int row = 0; row < 5; row++) {
      int open = row % 2 == 0 ? 0 : 7;
      for (int x = 0; x < 8; x++) {
        if (x != open) y.build(8 * row + x, 8 * row + x + 8, 0, 3);
      }
    }
    int loud = 99;
    for (int row = 5; row >= 0; row--) {
      for (int i = 0; i < 8; i++) {
        int x = row % 2 == 1 ? 7 - i : i;
        Due.same("winding " + x + " " + row, y.loud(0, 8 * row + x), loud);
        loud--;
      }
    }
  }

  /** Every way that enters no yard twice, tried one by one; walls and felt by the two yards, walls -1 if there is no way. */
  private static int loudest(int[][] walls, int[][] felt, int[] wind, int from, int to, int loud, int entered) {
    if (from == to) return loud;
    int best = 0;
    int[] steps = {1, -1, 3, -3};
    int[] losses = {3 - wind[0], 3 + wind[0], 3 - wind[1], 3 + wind[1]};
    for (int i = 0; i < 4; i++) {
      int next = from + steps[i];
      if (next < 0 || next > 8 || walls[from][next] < 0 || (entered >> next & 1) != 0) continue;
      int passed = loud - Math.max(1, losses[i]);
      for (int wall = 0; wall < walls[from][next]; wall++) passed /= 2;
      passed = Math.max(0, passed - felt[from][next]);
      best = Math.max(best, loudest(walls, felt, wind, next, to, passed, entered | 1 << next));
    }
    return best;
  }

  private static int[][] allBetween(QuietYards y, int what) {
    int[][] all = new int[9][9];
    for (int a = 0; a < 9; a++) {
      for (int b = 0; b < 9; b++) all[a][b] = y.between(a, b, what);
    }
    return all;
  }

  private static void allWaysOfSmallHills() {
    int seed = 12345;
    for (int round = 0; round < 40; round++) {
      QuietYards y = new QuietYards();
      StringBuilder text = new StringBuilder("hill 3 3;worker 0 90 0 0;worker 4 40 0 0;worker 5 77 0 0;");
      for (int i = 0; i < 8; i++) {
        seed = seed * 1103515245 + 12345;
        int a = (seed >>> 8) % 9;
        int b = (seed >>> 16 & 1) == 0 && a % 3 < 2 ? a + 1 : a + 3;
        if (b < 9) text.append((seed >>> 20 & 1) == 0 ? "wall " : "felt ").append(a).append(' ').append(b)
            .append(' ').append((seed >>> 22) % 4).append(';');
      }
      int[] wind = {(seed >>> 9) % 5 - 2, (seed >>> 12) % 5 - 2};
      Due.tell(y, text.toString());
      y.wind(wind[0], wind[1]);
      int[][] walls = allBetween(y, 0);
      int[][] felt = allBetween(y, 1);
      for (int w = 0; w < 3; w++) {
        for (int yard = 0; yard < 9; yard++) {
          int from = y.worker(w, 0);
          Due.same("round " + round + " loud " + w + " in " + yard, y.loud(w, yard),
              loudest(walls, felt, wind, from, yard, y.worker(w, 1), 1 << from));
        }
      }
    }
  }

  private static void loudRefused() {
    QuietYards y = Due.told("worker 3 9 0 0;");
    Due.same("worker 1", y.loud(1, 0), -1);
    for (int wrong : WRONG) {
      Due.same("worker " + wrong, y.loud(wrong, 0), -1);
      Due.same("yard " + wrong, y.loud(0, wrong), -1);
      Due.same("heard in " + wrong, y.heard(wrong, 1), -1);
    }
    Due.same("nobody", new QuietYards().loud(0, 0), -1);
  }

  private static void heard() {
    QuietYards y = Due.told("hill 4 1;worker 0 20 0 0;worker 0 30 0 0;worker 3 9 0 0;");
    Due.same("none", y.heard(0, 0), 0);
    Due.same("one", y.heard(1, 1), 17);
    Due.same("two", y.heard(1, 3), 44);
    Due.same("the third", y.heard(1, 4), 3);
    Due.same("all", y.heard(1, 7), 47);
    Due.same("workers of the yard count", y.heard(0, 7), 50);
    Due.same("those there are not", y.heard(1, 8), 0);
    Due.same("more bits", y.heard(1, 64 + 4), 3);
    Due.same("every bit", y.heard(1, -1), 47);
    Due.same("top bit alone", y.heard(1, Integer.MIN_VALUE), 0);
    Due.same("greatest", Due.told("worker 5 99 0 0;".repeat(6)).heard(5, 63), 594);
  }

  private static void broken() {
    QuietYards y = Due.told("hill 4 1;worker 0 20 0 0;worker 1 30 0 0;worker 3 9 0 0;"
        + "deed 1 2 5 13 1;deed 2 5 6 47 1;deed 0 0 11 23 1;deed 1 5 9 0 1;");
    // heard in 1 but by its own: 17 by worker 0, 3 by worker 2; in 2: 14, 27, 6; in 0: 27 by 1, 0 by 2
    Due.same("above", y.broken(2, 1), 1);
    Due.same("its own does not count", y.broken(2, 2), 4);
    Due.same("added: 20 above 13", y.broken(3, 5), 1);
    Due.same("3 is not above 13", y.broken(3, 4), 0);
    Due.same("nobody", y.broken(3, 0), 0);
    Due.same("just the limit: 14 + 27 + 6 = 47", y.broken(6, 7), 4 + 8);
    Due.same("27 above 23", y.broken(0, 2), 4);
    Due.same("hour 5: the first of yard 1 alone", y.broken(5, 7), 1 + 4);
    Due.same("hour 9: the other", y.broken(9, 5), 8);
    Due.same("hour 10: none in yard 1", y.broken(10, 5), 0);
    Due.same("any set", y.broken(6, -1), 4 + 8);
    Due.same("no such workers", y.broken(6, -8), 0);
    y.build(0, 1, 1, 9);
    Due.same("felt: 8 by worker 0", y.broken(2, 1), 0);
    Due.same("limit 0", y.broken(9, 1), 8);
    QuietYards limit = Due.told("hill 2 1;worker 0 13 0 0;deed 1 0 11 10 1;");
    Due.same("just so loud", limit.broken(0, 1), 0);
    limit.fade(2);
    Due.same("louder by 1", limit.broken(0, 1), 1);
    limit.wind(-1, 0);
    Due.same("against the wind", limit.broken(0, 1), 0);
    Due.same("the last of eight", Due.told("worker 0 50 0 0;" + "deed 0 0 0 0 0;".repeat(7) + "deed 1 0 0 0 0;")
        .broken(0, 1), 128);
  }

  private static void brokenRefused() {
    QuietYards y = Due.told("worker 0 90 0 0;deed 1 0 11 0 0;");
    for (int wrong : WRONG) Due.same("hour " + wrong, y.broken(wrong, 1), -1);
    Due.same("hour 11", y.broken(11, 1), 1);
    Due.same("hour 0", y.broken(0, 1), 1);
  }
}
