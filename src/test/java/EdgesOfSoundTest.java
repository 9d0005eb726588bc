/** Promises 11 to 13, sentence by sentence where one names an edge: loud, heard, broken. */
final class EdgesOfSoundTest {
  private static final String SIX_LOUDEST = "worker 5 99 0 0;".repeat(6);

  public static void main(String[] args) {
    inItsOwnYardItsOwnNoise();
    lessByFadeAndWindButByOneAtLeast();
    noneIsLessThanNone();
    aHalfCutForEachWall();
    wallsAheadOfFelt();
    lessByFeltDownToNone();
    theLoudestOfAllWays();
    aHillDoesNotGoRound();
    oneYardAlone();
    theFarthestYard();
    loudRefused();
    heardOfNobodyAndOfAll();
    heardOfAnySet();
    heardRefused();
    brokenAboveTheLimitAlone();
    limitsNoneAndMost();
    workersOfThatYardDoNotCount();
    brokenByNobodyAndByAnySet();
    brokenInItsHoursAlone();
    brokenByClash();
    eightDeedsAsBits();
    brokenRefused();
    Due.close("EdgesOfSoundTest");
  }

  // ---- promise 11

  /** Section 2, LOUD: "in its own NOISE", the least and the greatest, whatever stands around it. */
  private static void inItsOwnYardItsOwnNoise() {
    for (int noise : new int[] {1, 2, 98, 99}) {
      QuietYards y = Due.told("worker 5 " + noise + " 0 0;wall 5 6 3;felt 5 6 9;wind left 2;wind up 2;");
      for (int fade : new int[] {1, 9}) {
        y.fade(fade);
        Due.same("own " + noise, y.loud(0, 5), noise);
      }
    }
  }

  /** Section 2, "less by FADE less WIND that way (against it: more by it), but by 1 at least": every fade, every wind. */
  private static void lessByFadeAndWindButByOneAtLeast() {
    for (int fade = 1; fade <= 9; fade++) {
      QuietYards y = Due.told("hill 3 3;worker 4 30 0 0;");
      y.fade(fade);
      for (int wind = -2; wind <= 2; wind++) {
        int along = 30 - Math.max(1, fade - wind);
        int against = 30 - Math.max(1, fade + wind);
        String what = "fade " + fade + " wind " + wind;
        y.wind(wind, 0);
        Due.same(what + " to the right", y.loud(0, 5), along);
        Due.same(what + " to the left", y.loud(0, 3), against);
        Due.same(what + " across, down", y.loud(0, 7), 30 - fade);
        Due.same(what + " across, up", y.loud(0, 1), 30 - fade);
        y.wind(0, wind);
        Due.same(what + " down", y.loud(0, 7), along);
        Due.same(what + " up", y.loud(0, 1), against);
        Due.same(what + " across, to the right", y.loud(0, 5), 30 - fade);
        Due.same(what + " across, to the left", y.loud(0, 3), 30 - fade);
      }
    }
  }

  /** Section 2, "0 at least": NOISE less than FADE, as much, one more; and no further from 0. */
  private static void noneIsLessThanNone() {
    for (int fade = 1; fade <= 9; fade++) {
      for (int noise = 1; noise <= 12; noise++) {
        QuietYards y = Due.told("hill 3 1;worker 0 " + noise + " 0 0;");
        y.fade(fade);
        Due.same("noise " + noise + " fade " + fade, y.loud(0, 1), Math.max(0, noise - fade));
        Due.same("noise " + noise + " fade " + fade + ", two on", y.loud(0, 2), Math.max(0, noise - 2 * fade));
      }
    }
    QuietYards wind = Due.told("hill 2 1;worker 0 11 0 0;wind left 2;");
    wind.fade(9);
    Due.same("11 less 9 less 2", wind.loud(0, 1), 0);
  }

  /** Section 2, "then a half of it, cut, for each WALL": none to three walls, odd and even, down to 0. */
  private static void aHalfCutForEachWall() {
    for (int walls = 0; walls <= 3; walls++) {
      for (int noise = 1; noise <= 99; noise++) {
        QuietYards y = Due.told("hill 1 2;wall 0 1 " + walls + ";worker 0 " + noise + " 0 0;");
        int due = Math.max(0, noise - 3);
        for (int i = 0; i < walls; i++) due /= 2;
        Due.same("noise " + noise + " walls " + walls, y.loud(0, 1), due);
      }
    }
  }

  /** Section 2, "then .. for each WALL; then less by FELT": in this order. */
  private static void wallsAheadOfFelt() {
    QuietYards y = Due.told("hill 2 1;wall 0 1 1;felt 0 1 4;worker 0 18 0 0;worker 1 18 0 0;");
    Due.same("15 / 2 - 4", y.loud(0, 1), 3);
    Due.same("the other way", y.loud(1, 0), 3);
    y.build(0, 1, 0, 3);
    Due.same("15 / 8 - 4", y.loud(0, 1), 0);
  }

  /** Section 2, "then less by FELT; 0 at least": none to nine ells, from one above to one below what is left. */
  private static void lessByFeltDownToNone() {
    for (int felt = 0; felt <= 9; felt++) {
      for (int noise = 4; noise <= 14; noise++) {
        QuietYards y = Due.told("hill 3 1;felt 0 1 " + felt + ";worker 0 " + noise + " 0 0;");
        Due.same("noise " + noise + " felt " + felt, y.loud(0, 1), Math.max(0, noise - 3 - felt));
        Due.same("noise " + noise + " felt " + felt + ", two on", y.loud(0, 2), Math.max(0, noise - 6 - felt));
      }
    }
  }

  /** Section 2, "Of all ways the loudest": straight through a wall, or round it; alike by both; against the wind and with it. */
  private static void theLoudestOfAllWays() {
    QuietYards y = Due.told("hill 2 2;wall 0 1 1;worker 0 15 0 0;");
    Due.same("15 - 3 = 12 / 2 = 6, round 15 - 9 = 6", y.loud(0, 1), 6);
    y = Due.told("hill 2 2;wall 0 1 1;worker 0 14 0 0;");
    Due.same("11 / 2 = 5, round 5", y.loud(0, 1), 5);
    y = Due.told("hill 2 2;wall 0 1 1;worker 0 13 0 0;");
    Due.same("10 / 2 = 5, round 4", y.loud(0, 1), 5);
    y = Due.told("hill 2 2;wall 0 1 1;worker 0 16 0 0;");
    Due.same("13 / 2 = 6, round 7", y.loud(0, 1), 7);
    y = Due.told("hill 3 2;felt 0 1 9;wall 1 2 3;worker 0 40 0 0;wind right 2;");
    // straight 40 - 1 - 9 = 30; round: down 37, right 36, up 33
    Due.same("round by the felt", y.loud(0, 1), 33);
    // down 37, right 36, right 35, up 32
    Due.same("round by felt and walls", y.loud(0, 2), 32);
  }

  /** Section 1, "YARDS side by side": sound does not go from a row's end to the next row's begin, nor over the hill's edge. */
  private static void aHillDoesNotGoRound() {
    QuietYards y = Due.told("hill 2 3;worker 1 50 0 0;");
    Due.same("row 0's end to row 1's begin", y.loud(0, 2), 44);
    y = Due.told("hill 8 1;worker 0 50 0 0;");
    Due.same("from end to end", y.loud(0, 7), 29);
    y = Due.told("hill 1 6;worker 5 50 0 0;");
    Due.same("from below to above", y.loud(0, 0), 35);
    y = Due.told("hill 8 6;worker 0 99 0 0;");
    Due.same("from corner to corner", y.loud(0, 47), 99 - 12 * 3);
    Due.same("from side to side", y.loud(0, 7), 99 - 7 * 3);
    Due.same("from above to below", y.loud(0, 40), 99 - 5 * 3);
  }

  /** Section 1, "WIDE times HIGH YARDS (1 .. )": one yard, and no way out of it. */
  private static void oneYardAlone() {
    QuietYards y = Due.told("hill 1 1;worker 0 99 0 0;wind right 2;");
    Due.same("own", y.loud(0, 0), 99);
    Due.same("no other", y.loud(0, 1), Edge.BAD);
  }

  /** Promise 11 in the greatest hill: a way through all 48 yards, with the least that each step takes. */
  private static void theFarthestYard() {
    QuietYards y = Due.told("hill 8 6;worker 0 99 0 0;");
    y.fade(1);
    for (int row = 0; row < 5; row++) {
      for (int x = 0; x < 8; x++) {
        if (x == (row % 2 == 0 ? 7 : 0)) continue;
        y.build(8 * row + x, 8 * row + x + 8, 0, 3);
        y.build(8 * row + x, 8 * row + x + 8, 1, 9);
      }
    }
    Due.same("47 steps", y.loud(0, 40), 99 - 47);
    Due.same("40 steps", y.loud(0, 47), 99 - 40);
  }

  /** Promise 11, "BAD": no such worker, no such yard. */
  private static void loudRefused() {
    for (Edge.Made made : Edge.Made.values()) {
      for (int w : Edge.outside(0, made.workers - 1)) {
        Edge.refused(made, "loud worker " + w, Edge.BAD, y -> y.loud(w, 0));
      }
      for (int yard : Edge.outside(0, made.yards - 1)) {
        Edge.refused(made, "loud yard " + yard, Edge.BAD, y -> y.loud(0, yard));
        Edge.refused(made, "loud of the last, yard " + yard, Edge.BAD, y -> y.loud(made.workers - 1, yard));
      }
    }
  }

  // ---- promise 12

  /** Promise 12; section 2, "of some WORKERS (bits): all their LOUDS there, added": nobody, each, all six at their loudest. */
  private static void heardOfNobodyAndOfAll() {
    QuietYards y = Due.told(SIX_LOUDEST);
    for (int n = 0; n <= 6; n++) Due.same(n + " workers", y.heard(5, (1 << n) - 1), 99 * n);
    for (int w = 0; w < 6; w++) Due.same("worker " + w + " alone", y.heard(5, 1 << w), 99);
    Due.same("nobody there", new QuietYards().heard(5, 63), 0);
    Due.same("those of the yard count", Due.told("worker 5 40 0 0;worker 6 30 0 0;").heard(5, 3), 67);
  }

  /** Promise 12, "of any set (WORKERS that there are not are left out)": each bit of 32, with none to six workers. */
  private static void heardOfAnySet() {
    for (int n = 0; n <= 6; n++) {
      QuietYards y = Due.told("worker 5 10 0 0;".repeat(n));
      int there = (1 << n) - 1;
      for (int bit = 0; bit < 32; bit++) Due.same("bit " + bit + " of " + n, y.heard(5, 1 << bit), bit < n ? 10 : 0);
      Due.same("all bits of " + n, y.heard(5, -1), 10 * n);
      Due.same("all others of " + n, y.heard(5, ~there), 0);
      Due.same("the least number, " + n, y.heard(5, Integer.MIN_VALUE), 0);
      Due.same("the greatest number, " + n, y.heard(5, Integer.MAX_VALUE), 10 * n);
    }
  }

  /** Promise 12, "BAD": no such yard, whatever the set. */
  private static void heardRefused() {
    for (Edge.Made made : Edge.Made.values()) {
      for (int yard : Edge.outside(0, made.yards - 1)) {
        Edge.refused(made, "heard in " + yard, Edge.BAD, y -> y.heard(yard, 1));
        Edge.refused(made, "heard of nobody in " + yard, Edge.BAD, y -> y.heard(yard, 0));
      }
      Edge.leaves(made, "heard of those there are not", 0, y -> y.heard(made.yards - 1, -1 << made.workers));
    }
  }

  // ---- promise 13

  /** Section 2, BROKEN: "of whose YARD HEARD is above LIMIT": one below, just, one above; by one and by two added. */
  private static void brokenAboveTheLimitAlone() {
    for (int noise = 20; noise <= 26; noise++) {
      QuietYards y = Due.told("hill 2 1;worker 0 " + noise + " 0 0;deed 1 0 11 20 5;");
      Due.same("noise " + noise, y.broken(0, 1), noise - 3 > 20 ? 1 : 0);
      QuietYards two = Due.told("hill 2 1;worker 0 10 0 0;worker 0 " + noise + " 0 0;deed 1 0 11 27 5;");
      Due.same("noise 10 and " + noise, two.broken(0, 3), 7 + noise - 3 > 27 ? 1 : 0);
      Due.same("noise 10 alone", two.broken(0, 1), 0);
    }
  }

  /** Section 1, "a LIMIT (0 .. 99)": of 0 all that is heard breaks it, of 99 more than 99. */
  private static void limitsNoneAndMost() {
    QuietYards none = Due.told("hill 3 1;worker 0 4 0 0;deed 1 0 11 0 5;deed 2 0 11 0 5;");
    Due.same("1 is above 0, 0 is not", none.broken(0, 1), 1);
    QuietYards most = Due.told("hill 2 1;worker 0 99 0 0;worker 0 6 0 0;worker 0 3 0 0;worker 0 4 0 0;deed 1 0 11 99 5;");
    Due.same("96", most.broken(0, 1), 0);
    Due.same("96 + 3 is 99", most.broken(0, 3), 0);
    Due.same("96 + 3 + 0", most.broken(0, 7), 0);
    Due.same("96 + 3 + 1 is 100", most.broken(0, 11), 1);
  }

  /** Section 2, "but such WORKERS that work in that YARD do not count there": alone, and with others. */
  private static void workersOfThatYardDoNotCount() {
    QuietYards y = Due.told("hill 2 1;worker 1 99 0 0;worker 1 99 0 0;worker 0 23 0 0;deed 1 0 11 20 5;deed 0 0 11 95 6;");
    Due.same("its own", y.broken(0, 1), 2);
    Due.same("both its own", y.broken(0, 3), 2);
    Due.same("its own and just the limit", y.broken(0, 7), 2);
    y.fade(2);
    Due.same("its own and one above", y.broken(0, 7), 3);
    Due.same("one above alone", y.broken(0, 4), 1);
    Due.same("in one yard alone", Due.told("hill 1 1;worker 0 99 0 0;deed 0 0 11 0 9;").broken(0, 1), 0);
  }

  /** Promise 13 with no workers, with nobody of them, and with bits of such as there are not. */
  private static void brokenByNobodyAndByAnySet() {
    QuietYards nobody = Due.told("deed 0 0 11 0 0;");
    QuietYards two = Due.told("worker 0 50 0 0;worker 1 50 0 0;deed 5 0 11 0 0;deed 0 0 11 48 0;");
    Due.same("by none of two", two.broken(0, 0), 0);
    Due.same("by all bits", two.broken(0, -1), 1);
    Due.same("by one and others", two.broken(0, -3), 1);
    for (int bit = 0; bit < 32; bit++) {
      Due.same("bit " + bit + " of nobody", nobody.broken(0, 1 << bit), 0);
      Due.same("bit " + bit + " of two", two.broken(0, 1 << bit), bit < 2 ? 1 : 0);
      if (bit > 1) Due.same("bit " + bit + " and one", two.broken(0, 1 << bit | 2), 1);
    }
    Due.same("no deeds", Due.told(SIX_LOUDEST).broken(0, 63), 0);
  }

  /** Section 2, "DEEDS that hold then": hours 0 .. 11, the first and the last of a deed, next to them. */
  private static void brokenInItsHoursAlone() {
    QuietYards y = Due.told("worker 0 50 0 0;deed 1 0 0 0 0;deed 2 11 11 0 0;deed 4 3 7 0 0;deed 5 0 11 0 0;");
    for (int hour = 0; hour < 12; hour++) {
      int due = (hour == 0 ? 1 : 0) + (hour == 11 ? 2 : 0) + (hour >= 3 && hour <= 7 ? 4 : 0) + 8;
      Due.same("hour " + hour, y.broken(hour, 1), due);
    }
  }

  /** Section 2, CLASH: a deed that does not hold is not broken, though its limit is passed. */
  private static void brokenByClash() {
    QuietYards y = Due.told("worker 0 50 0 0;deed 1 3 5 99 9;deed 1 5 6 0 9;deed 1 5 5 0 9;");
    Due.same("hour 4: the first, and it is not broken", y.broken(4, 1), 0);
    Due.same("hour 5: the first alone holds", y.broken(5, 1), 0);
    Due.same("hour 6: the second", y.broken(6, 1), 2);
    Due.same("hour 7: none", y.broken(7, 1), 0);
  }

  /** Promise 13, "as bits of DEEDS": all eight. */
  private static void eightDeedsAsBits() {
    StringBuilder text = new StringBuilder("worker 0 99 0 0;");
    for (int d = 0; d < 8; d++) text.append("deed ").append(d + 1).append(" 0 ").append(d).append(" 0 0;");
    QuietYards y = Due.told(text.toString());
    for (int hour = 0; hour < 12; hour++) {
      Due.same("hour " + hour, y.broken(hour, 1), hour > 7 ? 0 : 255 >> hour << hour);
    }
  }

  /** Promise 13, "BAD": no such hour, whatever the set. */
  private static void brokenRefused() {
    for (int hour : Edge.outside(0, 11)) {
      Edge.refused("broken in " + hour, Edge.BAD, y -> y.broken(hour, -1));
      Edge.refused("broken by nobody in " + hour, Edge.BAD, y -> y.broken(hour, 0));
    }
    for (Edge.Made made : Edge.Made.values()) Edge.leaves(made, "broken by nobody", 0, y -> y.broken(11, 0));
  }
}
