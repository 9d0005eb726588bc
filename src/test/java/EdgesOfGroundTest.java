/** Promises 5 to 10, sentence by sentence where one names an edge: between, build, wind, fade, worker, deed. */
final class EdgesOfGroundTest {
  public static void main(String[] args) {
    betweenNeighboursAlone();
    betweenAnswersWallsOrFelt();
    betweenRefused();
    noneAndMostBetween();
    buildTakesNoneToMost();
    buildAnswersWhatThereWas();
    buildBetweenNeighboursAlone();
    buildRefused();
    windTwoEachWay();
    windRefused();
    fadeOneToNine();
    fadeRefused();
    workerLeastAndMost();
    workersThatThereAreNot();
    workerRefused();
    deedLeastAndMost();
    deedHoldsFromItsFirstToItsLastHour();
    deedsThatClash();
    deedsThatThereAreNot();
    deedRefused();
    Due.close("EdgesOfGroundTest");
  }

  private static boolean areNeighbours(int wide, int yards, int a, int b) {
    if (a < 0 || b < 0 || a >= yards || b >= yards) return false;
    return Math.abs(a % wide - b % wide) + Math.abs(a / wide - b / wide) == 1;
  }

  // ---- promise 5

  /** Promise 5, "Between neighbours", "BAD"; section 1, "two YARDS side by side": no wrap at a row's end, none to itself. */
  private static void betweenNeighboursAlone() {
    int[][] sizes = {{1, 1}, {1, 2}, {2, 1}, {1, 6}, {8, 1}, {2, 2}, {3, 2}, {4, 3}};
    for (int[] size : sizes) {
      int yards = size[0] * size[1];
      String hill = "hill " + size[0] + " " + size[1] + ";";
      for (int a = -2; a <= yards + 1; a++) {
        QuietYards y = Due.told(hill);
        for (int b = -2; b <= yards + 1; b++) {
          int due = areNeighbours(size[0], yards, a, b) ? 0 : Edge.BAD;
          Due.same(hill + " walls between " + a + " " + b, y.between(a, b, 0), due);
          Due.same(hill + " felt between " + a + " " + b, y.between(a, b, 1), due);
        }
      }
    }
    QuietYards big = Due.told("hill 8 6;");
    Due.same("the last two", big.between(46, 47, 0), 0);
    Due.same("the last two below", big.between(39, 47, 1), 0);
    Due.same("behind the last", big.between(47, 48, 0), Edge.BAD);
    Due.same("below the last", big.between(47, 55, 0), Edge.BAD);
    Due.same("above the first", big.between(0, -8, 0), Edge.BAD);
    Due.same("a row's end", big.between(7, 8, 0), Edge.BAD);
  }

  /** Promise 5, "WALLS (what = 0), FELT (1)": either way round. */
  private static void betweenAnswersWallsOrFelt() {
    QuietYards y = Due.told("wall 1 2 2;felt 1 2 7;wall 2 6 1;felt 6 2 8;");
    Due.same("walls", y.between(1, 2, 0), 2);
    Due.same("walls, the other way", y.between(2, 1, 0), 2);
    Due.same("felt", y.between(1, 2, 1), 7);
    Due.same("felt, the other way", y.between(2, 1, 1), 7);
    Due.same("walls below", y.between(6, 2, 0), 1);
    Due.same("felt below", y.between(2, 6, 1), 8);
    Due.same("none above 1", y.between(1, 5, 0) + y.between(1, 5, 1), 0);
  }

  /** Promise 5, "BAD": a, b or what that there is not; nothing changes. */
  private static void betweenRefused() {
    for (int what : Edge.outside(0, 1)) Edge.refused("between what " + what, Edge.BAD, y -> y.between(0, 1, what));
    for (Edge.Made made : Edge.Made.values()) {
      for (int yard : Edge.outside(0, made.yards - 1)) {
        Edge.refused(made, "between a " + yard, Edge.BAD, y -> y.between(yard, 0, 0));
        Edge.refused(made, "between b " + yard, Edge.BAD, y -> y.between(0, yard, 1));
      }
    }
  }

  /** Section 1, "WALLS (0 .. 3)", "FELT (0 .. 9 ells)": the least and the most as told by a text. */
  private static void noneAndMostBetween() {
    QuietYards y = Due.told("hill 2 1;wall 0 1 3;felt 0 1 9;");
    Due.same("3 walls", y.between(0, 1, 0), 3);
    Due.same("9 ells", y.between(0, 1, 1), 9);
    y = Due.told("hill 2 1;wall 0 1 0;felt 0 1 0;");
    Due.same("no walls", y.between(0, 1, 0), 0);
    Due.same("no felt", y.between(0, 1, 1), 0);
  }

  // ---- promise 6

  /** Promise 6, "WALLS (0 .. 3; what = 0), FELT (0 .. 9; 1) .. become n": each number, in a hill's first and last pair. */
  private static void buildTakesNoneToMost() {
    int[][] pairs = {{0, 1}, {0, 8}, {46, 47}, {39, 47}, {47, 46}, {8, 0}};
    for (int[] pair : pairs) {
      for (int what = 0; what < 2; what++) {
        QuietYards y = Due.told("hill 8 6;");
        for (int n = 0; n <= (what == 0 ? 3 : 9); n++) {
          Due.same("were", y.build(pair[0], pair[1], what, n), Math.max(0, n - 1));
          Due.same("are", y.between(pair[0], pair[1], what), n);
          Due.same("and no others", y.count(6 + what), n);
          Due.same("the other stays", y.between(pair[0], pair[1], 1 - what), 0);
        }
        Due.same("all away", y.build(pair[0], pair[1], what, 0), what == 0 ? 3 : 9);
        Due.same("none", y.count(6 + what), 0);
      }
    }
  }

  /** Promise 6, "what they were": none, the same again, the most. */
  private static void buildAnswersWhatThereWas() {
    QuietYards y = new QuietYards();
    Due.same("none", y.build(5, 6, 0, 3), 0);
    Due.same("the same again", y.build(6, 5, 0, 3), 3);
    Due.same("to none", y.build(5, 6, 0, 0), 3);
    Due.same("no felt", y.build(5, 6, 1, 9), 0);
    Due.same("the same felt again", y.build(6, 5, 1, 9), 9);
    Due.same("felt to none", y.build(5, 6, 1, 0), 9);
    Due.same("none to none", y.build(5, 6, 1, 0), 0);
  }

  /** Promise 6, "of neighbours": all other pairs are refused, and no border changes. */
  private static void buildBetweenNeighboursAlone() {
    int[][] sizes = {{1, 1}, {1, 3}, {3, 1}, {3, 3}};
    for (int[] size : sizes) {
      int yards = size[0] * size[1];
      QuietYards y = Due.told("hill " + size[0] + " " + size[1] + ";");
      int built = 0;
      for (int a = -1; a <= yards; a++) {
        for (int b = -1; b <= yards; b++) {
          boolean side = areNeighbours(size[0], yards, a, b);
          Due.same("build " + a + " " + b, y.build(a, b, 0, 2), !side ? Edge.BAD : a < b ? 0 : 2);
          if (side && a < b) built += 2;
        }
      }
      Due.same("all walls of " + size[0] + " by " + size[1], y.count(6), built);
      Due.same("no felt", y.count(7), 0);
    }
  }

  /** Promise 6, "BAD": four walls, ten ells, fewer than none, another what, no such yard; nothing changes. */
  private static void buildRefused() {
    for (int n : Edge.outside(0, 3)) Edge.refused("build walls " + n, Edge.BAD, y -> y.build(0, 1, 0, n));
    for (int n = 4; n <= 9; n++) {
      int walls = n;
      Edge.refused("build walls, as many as felt " + n, Edge.BAD, y -> y.build(1, 0, 0, walls));
    }
    for (int n : Edge.outside(0, 9)) Edge.refused("build felt " + n, Edge.BAD, y -> y.build(0, 1, 1, n));
    for (int what : Edge.outside(0, 1)) Edge.refused("build what " + what, Edge.BAD, y -> y.build(0, 1, what, 1));
    for (Edge.Made made : Edge.Made.values()) {
      for (int yard : Edge.outside(0, made.yards - 1)) {
        Edge.refused(made, "build a " + yard, Edge.BAD, y -> y.build(yard, 0, 0, 2));
        Edge.refused(made, "build b " + yard, Edge.BAD, y -> y.build(0, yard, 1, 2));
      }
      Edge.refused(made, "build to itself", Edge.BAD, y -> y.build(0, 0, 0, 2));
    }
  }

  // ---- promise 7

  /** Promise 7, "WIND to the right, down (-2 .. 2 each): 1": every wind, heard on all four sides. */
  private static void windTwoEachWay() {
    QuietYards y = Due.told("worker 5 50 0 0;");
    for (int right = -2; right <= 2; right++) {
      for (int down = -2; down <= 2; down++) {
        String wind = "wind " + right + " " + down;
        Due.same(wind, y.wind(right, down), 1);
        Due.same(wind + " to the right", y.loud(0, 6), 47 + right);
        Due.same(wind + " to the left", y.loud(0, 4), 47 - right);
        Due.same(wind + " down", y.loud(0, 9), 47 + down);
        Due.same(wind + " up", y.loud(0, 1), 47 - down);
      }
    }
    Due.same("the same again", y.wind(2, 2), 1);
    Due.same("without workers", new QuietYards().wind(-2, -2), 1);
    Due.same("in one yard", Due.told("hill 1 1;").wind(0, 0), 1);
  }

  /** Promise 7, "BAD": beyond 2 either way, of one or of both; the other does not change either. */
  private static void windRefused() {
    for (int blows : Edge.outside(-2, 2)) {
      Edge.refused("wind right " + blows, Edge.BAD, y -> y.wind(blows, 0));
      Edge.refused("wind down " + blows, Edge.BAD, y -> y.wind(0, blows));
      Edge.refused("wind both " + blows, Edge.BAD, y -> y.wind(blows, blows));
    }
  }

  // ---- promise 8

  /** Promise 8, "FADE: what it was"; section 1, "FADE (1 .. 9)". */
  private static void fadeOneToNine() {
    QuietYards y = Due.told("worker 0 50 0 0;");
    int was = 3;
    for (int v : new int[] {1, 2, 3, 4, 5, 6, 7, 8, 9, 9, 1, 1}) {
      Due.same("fade " + v, y.fade(v), was);
      Due.same("to a neighbour", y.loud(0, 1), 50 - v);
      Due.same("two yards on", y.loud(0, 2), 50 - 2 * v);
      was = v;
    }
  }

  /** Promise 8, "BAD": 0, 10 and beyond; FADE stays. */
  private static void fadeRefused() {
    for (int v : Edge.outside(1, 9)) Edge.refused("fade " + v, Edge.BAD, y -> y.fade(v));
  }

  // ---- promise 9

  /** Promise 9; section 1, "a YARD, NOISE (1 .. 99), a KIND (0 .. 4), WORTH of an HOUR (0 .. 99)": least and most of each. */
  private static void workerLeastAndMost() {
    QuietYards y = Due.told("hill 8 6;worker 0 1 0 0;worker 47 99 4 99;worker 7 8 3 10;worker 8 9 1 11;"
        + "worker 40 10 2 98;worker 39 98 0 1;");
    int[][] rows = {{0, 1, 0, 0}, {47, 99, 4, 99}, {7, 8, 3, 10}, {8, 9, 1, 11}, {40, 10, 2, 98}, {39, 98, 0, 1}};
    for (int w = 0; w < 6; w++) {
      for (int what = 0; what < 4; what++) Due.same("worker " + w + " " + what, y.worker(w, what), rows[w][what]);
    }
  }

  /** Promise 9, "BAD": WORKERS that there are not, though as many may be told, and of an earlier text. */
  private static void workersThatThereAreNot() {
    for (int n = 0; n <= 6; n++) {
      QuietYards y = Due.told("worker 1 2 3 4;".repeat(6));
      Due.tell(y, "worker 5 6 1 8;".repeat(n));
      for (int w = 0; w < 7; w++) Due.same("worker " + w + " of " + n, y.worker(w, 0), w < n ? 5 : Edge.BAD);
    }
  }

  /** Promise 9, "BAD": no such worker, nothing such to ask. */
  private static void workerRefused() {
    for (int what : Edge.outside(0, 3)) Edge.refused("worker what " + what, Edge.BAD, y -> y.worker(0, what));
    for (Edge.Made made : Edge.Made.values()) {
      for (int w : Edge.outside(0, made.workers - 1)) {
        Edge.refused(made, "worker " + w, Edge.BAD, y -> y.worker(w, 0));
        Edge.refused(made, "worker " + w + " worth", Edge.BAD, y -> y.worker(w, 3));
      }
    }
  }

  // ---- promise 10

  /** Promise 10; section 1, "a YARD, HOURS a .. b (0 .. 11), a LIMIT (0 .. 99), a PRICE (0 .. 99)": least and most of each. */
  private static void deedLeastAndMost() {
    QuietYards y = Due.told("hill 8 6;deed 0 0 0 0 0;deed 47 11 11 99 99;deed 46 0 11 98 1;deed 45 5 6 1 98;");
    int[][] rows = {{0, 0, 0, 0, 0, 1}, {47, 11, 11, 99, 99, 2048}, {46, 0, 11, 98, 1, 4095}, {45, 5, 6, 1, 98, 96}};
    for (int d = 0; d < 4; d++) {
      for (int what = 0; what < 6; what++) Due.same("deed " + d + " " + what, y.deed(d, what), rows[d][what]);
    }
  }

  /** Promise 10, "HOURS in which it holds (bits)"; section 2, "A DEED holds in its HOURS": both ends are in them. */
  private static void deedHoldsFromItsFirstToItsLastHour() {
    for (int first = 0; first < 12; first++) {
      for (int last = first; last < 12; last++) {
        QuietYards y = Due.told("deed 3 " + first + " " + last + " 0 0;");
        Due.same("hours " + first + " .. " + last, y.deed(0, 5), (1 << last + 1) - (1 << first));
      }
    }
  }

  /** Section 2, CLASH: "where two DEEDS of one YARD have an HOUR in common, only the first told holds in it". */
  private static void deedsThatClash() {
    clash("one hour in common", "deed 0 2 5 0 0;deed 0 5 8 0 0;", 60, 448);
    clash("told the other way round", "deed 0 5 8 0 0;deed 0 2 5 0 0;", 480, 28);
    clash("none in common", "deed 0 2 4 0 0;deed 0 5 8 0 0;", 28, 480);
    clash("all in common", "deed 0 0 11 0 0;deed 0 0 11 9 9;", 4095, 0);
    clash("one within the other", "deed 0 4 7 0 0;deed 0 0 11 0 0;", 240, 3855);
    clash("the first hour", "deed 0 0 0 0 0;deed 0 0 11 0 0;", 1, 4094);
    clash("the last hour", "deed 0 11 11 0 0;deed 0 0 11 0 0;", 2048, 2047);
    clash("two yards", "deed 0 0 11 0 0;deed 1 0 11 0 0;", 4095, 4095);
    clash("a third where the second does not hold", "deed 0 0 3 0 0;deed 0 2 6 0 0;deed 0 1 8 0 0;", 15, 112, 384);
    clash("eight of one yard", "deed 0 0 11 0 0;" + "deed 0 3 4 0 0;".repeat(6) + "deed 0 11 11 0 0;",
        4095, 0, 0, 0, 0, 0, 0, 0);
    clash("eight, an hour each", "deed 0 0 0 0 0;deed 0 0 1 0 0;deed 0 0 2 0 0;deed 0 0 3 0 0;deed 0 0 4 0 0;"
        + "deed 0 0 5 0 0;deed 0 0 6 0 0;deed 0 0 11 0 0;", 1, 2, 4, 8, 16, 32, 64, 3968);
  }

  private static void clash(String what, String text, int... hours) {
    QuietYards y = Due.told(text);
    for (int d = 0; d < hours.length; d++) Due.same(what + ", deed " + d, y.deed(d, 5), hours[d]);
  }

  /** Promise 10, "BAD": DEEDS that there are not, though as many may be told, and of an earlier text. */
  private static void deedsThatThereAreNot() {
    for (int n = 0; n <= 8; n++) {
      QuietYards y = Due.told("deed 1 2 3 4 5;".repeat(8));
      Due.tell(y, "deed 6 0 0 0 0;".repeat(n));
      for (int d = 0; d < 9; d++) Due.same("deed " + d + " of " + n, y.deed(d, 0), d < n ? 6 : Edge.BAD);
      if (n > 0) Due.same("the first holds", y.deed(0, 5), 1);
    }
  }

  /** Promise 10, "BAD": no such deed, nothing such to ask. */
  private static void deedRefused() {
    for (int what : Edge.outside(0, 5)) Edge.refused("deed what " + what, Edge.BAD, y -> y.deed(0, what));
    for (Edge.Made made : Edge.Made.values()) {
      for (int d : Edge.outside(0, made.deeds - 1)) {
        Edge.refused(made, "deed " + d, Edge.BAD, y -> y.deed(d, 0));
        Edge.refused(made, "deed " + d + " holds", Edge.BAD, y -> y.deed(d, 5));
      }
    }
  }
}
