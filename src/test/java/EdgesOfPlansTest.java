/** Promises 14 to 17, sentence by sentence where one names an edge: plan, day, best, saw. */
final class EdgesOfPlansTest {
  private static final String SIX_WORTHY = "worker 5 99 0 99;".repeat(6);

  public static void main(String[] args) {
    planOfNobody();
    planOfAllSix();
    freePlanBreaksNone();
    freePlanMayBeJustAsLoud();
    paidPlanPaysForAllThatIsBroken();
    paidForNothing();
    planThatBringsNothingMore();
    leastBitsOfSeveral();
    planOfTheFirstAndTheLastHour();
    planRefused();
    dayIsOfTwelveHours();
    dayOfNobodyAndOfTheMost();
    dayRefused();
    bestWhereThereAreNoPairs();
    bestWhereAllPairsAreFull();
    bestWhereNoneBringsMore();
    bestBringsOneMore();
    bestWallUpToThree();
    bestFeltUpToNine();
    bestLeavesOutThoseThatAreFull();
    bestTheFirstByTheLowerYardThenByTheOther();
    bestTheLastPair();
    bestPaidAndFree();
    bestLeavesAll();
    bestRefused();
    sawLeastAndMostNoise();
    sawDoesNotBreakDeedsOfItsOwnYard();
    sawAboveTheLimitAlone();
    sawIsAlone();
    sawTheLeastYardOfSeveral();
    sawTheLastYard();
    sawInTheHoursOfDeeds();
    sawOwesTheMost();
    sawLeavesAll();
    sawRefused();
    Due.close("EdgesOfPlansTest");
  }

  private static void plan(String what, QuietYards y, int hour, int paid, int set, int brings) {
    Due.same(what + ", the set", y.plan(hour, paid, 0), set);
    Due.same(what + ", brings", y.plan(hour, paid, 1), brings);
  }

  // ---- promise 14

  /** Section 3, "some WORKERS": none told, and none that could work. */
  private static void planOfNobody() {
    for (int hour = 0; hour < 12; hour++) {
      for (int paid = 0; paid < 2; paid++) {
        plan("a new object", new QuietYards(), hour, paid, 0, 0);
        plan("deeds alone", Due.told("deed 0 0 11 0 9;"), hour, paid, 0, 0);
      }
    }
    plan("too loud", Due.told("worker 0 9 0 5;deed 1 0 11 0 9;"), 0, 0, 0, 0);
    plan("too dear", Due.told("worker 0 9 0 5;deed 1 0 11 0 9;"), 0, 1, 0, 0);
  }

  /** Section 3, "it brings their WORTH, added": all six, as much as may be. */
  private static void planOfAllSix() {
    plan("free", Due.told(SIX_WORTHY), 0, 0, 63, 594);
    plan("paid", Due.told(SIX_WORTHY), 11, 1, 63, 594);
    plan("in a yard of their own", Due.told(SIX_WORTHY + "deed 5 0 11 0 99;"), 6, 0, 63, 594);
  }

  /** Section 3, "FREE: by which no DEED is BROKEN", each alone or some together. */
  private static void freePlanBreaksNone() {
    QuietYards y = Due.told("hill 2 1;worker 0 20 0 7;worker 0 20 0 8;worker 0 20 0 9;deed 1 0 11 34 99;");
    plan("two of three", y, 0, 0, 6, 17);
    y.fade(9);
    plan("all three", y, 0, 0, 7, 24);
    y.fade(2);
    plan("one of three", y, 0, 0, 4, 9);
    y.build(0, 1, 0, 0);
    QuietYards quiet = Due.told("hill 2 1;worker 0 20 0 7;worker 1 20 0 8;deed 1 0 11 0 9;deed 0 0 11 0 9;");
    plan("each breaks the other's", quiet, 0, 0, 0, 0);
  }

  /** Section 3, FREE; section 2, "above LIMIT": just the limit is free, one above is not. */
  private static void freePlanMayBeJustAsLoud() {
    plan("just", Due.told("hill 2 1;worker 0 13 0 5;deed 1 0 11 10 9;"), 0, 0, 1, 5);
    plan("one above", Due.told("hill 2 1;worker 0 14 0 5;deed 1 0 11 10 9;"), 0, 0, 0, 0);
  }

  /** Section 3, "PAID: any; PRICES of all that are BROKEN are taken from that": none, each once, all eight. */
  private static void paidPlanPaysForAllThatIsBroken() {
    plan("none broken", Due.told("worker 0 9 0 5;"), 0, 1, 1, 5);
    plan("one broken by two is paid once", Due.told("worker 0 9 0 5;worker 0 9 0 5;deed 1 0 11 0 9;"), 0, 1, 3, 1);
    plan("two broken by one", Due.told("worker 0 9 0 50;deed 1 0 11 0 9;deed 4 0 11 0 8;"), 0, 1, 1, 33);
    StringBuilder eight = new StringBuilder(SIX_WORTHY);
    int[] others = {0, 1, 2, 3, 4, 6, 7, 8};
    for (int yard : others) eight.append("deed ").append(yard).append(" 0 11 0 74;");
    plan("594 less 8 times 74", Due.told(eight.toString()), 0, 1, 63, 2);
    plan("594 less 8 times 75", Due.told(eight.toString().replace("74", "75")), 0, 1, 0, 0);
    plan("594 less 8 times 99", Due.told(eight.toString().replace("74", "99")), 0, 1, 0, 0);
  }

  /** Section 1, "a PRICE (0 .. 99)": a deed of price 0 may be broken for nothing when paid, not when free. */
  private static void paidForNothing() {
    QuietYards y = Due.told("worker 0 9 0 5;deed 1 0 11 0 0;");
    plan("paid", y, 0, 1, 1, 5);
    plan("free", y, 0, 0, 0, 0);
  }

  /** Section 3, "that which brings the most": worth as much as the price brings no more than nobody. */
  private static void planThatBringsNothingMore() {
    plan("just as dear", Due.told("worker 0 9 0 5;deed 1 0 11 0 5;"), 0, 1, 0, 0);
    plan("one dearer", Due.told("worker 0 9 0 5;deed 1 0 11 0 6;"), 0, 1, 0, 0);
    plan("one cheaper", Due.told("worker 0 9 0 5;deed 1 0 11 0 4;"), 0, 1, 1, 1);
    plan("worth 0", Due.told("worker 0 9 0 0;worker 1 9 0 0;"), 0, 0, 0, 0);
  }

  /** Section 3, "of several the least bits". */
  private static void leastBitsOfSeveral() {
    plan("one of two alike", Due.told("hill 2 1;worker 0 13 0 5;worker 0 13 0 5;deed 1 0 11 10 9;"), 0, 0, 1, 5);
    plan("without one worth 0", Due.told("worker 0 9 0 0;worker 0 9 0 5;worker 0 9 0 0;"), 0, 0, 2, 5);
    plan("0 and 1 ahead of 2", Due.told("hill 2 1;worker 0 8 0 2;worker 0 8 0 3;worker 0 13 0 5;deed 1 0 11 10 9;"),
        0, 0, 3, 5);
    plan("2 ahead of 3", Due.told("hill 2 1;worker 0 14 0 9;worker 0 14 0 9;worker 0 13 0 5;worker 0 13 0 5;"
        + "deed 1 0 11 10 99;"), 0, 0, 4, 5);
    plan("paid: one who pays with another brings no more", Due.told("hill 2 1;worker 0 9 0 5;worker 1 9 0 5;"
        + "deed 1 0 11 0 5;"), 0, 1, 2, 5);
    plan("the last of six alone", Due.told("worker 0 9 0 0;".repeat(5) + "worker 0 9 0 1;"), 0, 0, 32, 1);
  }

  /** Promise 14, "hour" 0 .. 11: the first and the last, with deeds there and next to there. */
  private static void planOfTheFirstAndTheLastHour() {
    QuietYards y = Due.told("worker 0 9 0 5;deed 1 0 0 0 9;deed 4 11 11 0 3;");
    plan("hour 0", y, 0, 0, 0, 0);
    plan("hour 0 paid", y, 0, 1, 0, 0);
    plan("hour 1", y, 1, 0, 1, 5);
    plan("hour 10", y, 10, 1, 1, 5);
    plan("hour 11", y, 11, 0, 0, 0);
    plan("hour 11 paid", y, 11, 1, 1, 2);
  }

  /** Promise 14, "BAD": hour, paid, what beyond. */
  private static void planRefused() {
    for (int hour : Edge.outside(0, 11)) Edge.refused("plan hour " + hour, Edge.BAD, y -> y.plan(hour, 0, 0));
    for (int bit : Edge.outside(0, 1)) {
      Edge.refused("plan paid " + bit, Edge.BAD, y -> y.plan(0, bit, 0));
      Edge.refused("plan what " + bit, Edge.BAD, y -> y.plan(11, 1, bit));
    }
  }

  // ---- promise 15

  /** Section 3, "what the BEST PLANS of HOURS 0 .. 11 bring together": each hour counts, the first and the last too. */
  private static void dayIsOfTwelveHours() {
    for (int hour = 0; hour < 12; hour++) {
      QuietYards y = Due.told("worker 0 9 0 5;deed 1 " + hour + " " + hour + " 0 2;");
      Due.same("free but for hour " + hour, y.day(0), 11 * 5);
      Due.same("paid in hour " + hour, y.day(1), 12 * 5 - 2);
      int sum = 0;
      for (int h = 0; h < 12; h++) sum += y.plan(h, 1, 1);
      Due.same("all plans", sum, y.day(1));
    }
  }

  /** Promise 15: nothing, and as much as may be. */
  private static void dayOfNobodyAndOfTheMost() {
    for (int paid = 0; paid < 2; paid++) {
      Due.same("a new object", new QuietYards().day(paid), 0);
      Due.same("deeds alone", Due.told("deed 0 0 11 0 9;").day(paid), 0);
      Due.same("too loud and too dear", Due.told("worker 0 9 0 5;deed 1 0 11 0 5;").day(paid), 0);
      Due.same("six of worth 99", Due.told(SIX_WORTHY).day(paid), 12 * 594);
    }
  }

  /** Promise 15, "BAD". */
  private static void dayRefused() {
    for (int paid : Edge.outside(0, 1)) Edge.refused("day " + paid, Edge.BAD, y -> y.day(paid));
  }

  // ---- promise 16

  private static void best(String what, QuietYards y, int kind, int paid, int pair, int brings) {
    Due.same(what + ", the pair", y.best(kind, paid, 0), pair);
    Due.same(what + ", brings", y.best(kind, paid, 1), brings);
  }

  private static void none(String what, QuietYards y) {
    for (int i = 0; i < 4; i++) best(what + " " + i, y, i & 1, i >> 1, Edge.NONE, Edge.NONE);
  }

  /** Section 3, "NONE: there are none": no neighbours. */
  private static void bestWhereThereAreNoPairs() {
    none("one yard", Due.told("hill 1 1;"));
    none("one yard with all", Due.told("hill 1 1;worker 0 99 0 99;deed 0 0 11 0 99;"));
  }

  /** Section 3, "NONE: there are none": all have 3 walls, or 9 ells, and one more would bring more. */
  private static void bestWhereAllPairsAreFull() {
    none("both full", Due.told("hill 2 1;wall 0 1 3;felt 0 1 9;worker 0 99 0 9;deed 1 0 11 2 99;"));
    QuietYards walls = Due.told("hill 1 2;wall 0 1 3;worker 0 43 0 9;deed 1 0 11 4 99;");
    best("three walls, an ell", walls, 1, 0, 1, 108);
    best("three walls", walls, 0, 0, Edge.NONE, Edge.NONE);
    QuietYards felt = Due.told("hill 1 2;felt 0 1 9;worker 0 43 0 9;deed 1 0 11 30 99;");
    best("nine ells, a wall", felt, 0, 0, 1, 108);
    best("nine ells", felt, 1, 0, Edge.NONE, Edge.NONE);
  }

  /** Section 3, "NONE: .. or none brings more": as much as before is not more. */
  private static void bestWhereNoneBringsMore() {
    none("a new object", new QuietYards());
    none("no deeds", Due.told("worker 0 99 0 99;"));
    none("no workers", Due.told("deed 0 0 11 0 9;"));
    none("not broken", Due.told("hill 2 1;worker 0 10 0 9;deed 1 0 11 7 9;"));
    none("far too loud", Due.told("hill 2 1;worker 0 99 0 9;deed 1 0 11 0 99;"));
    none("worth nothing", Due.told("hill 2 1;worker 0 10 0 0;deed 1 0 11 6 9;"));
    // by a wall 6 and 5 are heard of 10: one or the other, as before
    none("freed, but not beside another of its worth", Due.told("hill 2 1;worker 0 16 0 5;worker 0 13 0 5;deed 1 0 11 10 99;"));
  }

  /** Section 3, "brings the most": one more is enough. */
  private static void bestBringsOneMore() {
    best("an hour of worth 1", Due.told("hill 2 1;worker 0 10 0 1;deed 1 5 5 6 9;"), 1, 0, 1, 12);
    best("what was paid: 1", Due.told("hill 2 1;worker 0 10 0 9;deed 1 5 5 6 1;"), 1, 1, 1, 108);
    best("a wall", Due.told("hill 2 1;worker 0 10 0 1;deed 1 0 0 6 9;"), 0, 0, 1, 12);
  }

  /** Section 3, "fewer than 3 WALLS": two become three, three stay. */
  private static void bestWallUpToThree() {
    // 40 is heard in 1; 20, 10, 5 by walls
    int[] limits = {20, 10, 5};
    for (int walls = 0; walls < 3; walls++) {
      String text = "hill 2 1;wall 0 1 " + walls + ";worker 0 43 0 1;deed 1 0 11 " + limits[walls] + " 9;";
      best("wall " + (walls + 1), Due.told(text), 0, 0, 1, 12);
      best("one too loud by wall " + (walls + 1), Due.told(text.replace("43", "51")), 0, 0, Edge.NONE, Edge.NONE);
    }
    best("a fourth", Due.told("hill 2 1;wall 0 1 3;worker 0 43 0 1;deed 1 0 11 4 9;"), 0, 0, Edge.NONE, Edge.NONE);
  }

  /** Section 3, "BEST FELT: the same with one ell more (fewer than 9)": eight become nine, nine stay. */
  private static void bestFeltUpToNine() {
    for (int felt = 0; felt <= 9; felt++) {
      String text = "hill 2 1;felt 0 1 " + felt + ";worker 0 43 0 1;deed 1 0 11 " + (39 - felt) + " 9;";
      best("ell " + (felt + 1), Due.told(text), 1, 0, felt < 9 ? 1 : Edge.NONE, felt < 9 ? 12 : Edge.NONE);
      best("one too loud by ell " + (felt + 1), Due.told(text.replace("43", "44")), 1, 0, Edge.NONE, Edge.NONE);
    }
  }

  /** Section 3, "of all pairs .. that have fewer than": one that is full is passed over for a later one. */
  private static void bestLeavesOutThoseThatAreFull() {
    best("walls", Due.told("hill 3 1;wall 0 1 3;worker 0 83 0 1;deed 2 0 11 4 9;"), 0, 0, 102, 12);
    best("felt", Due.told("hill 3 1;felt 0 1 9;worker 0 40 0 1;deed 2 0 11 24 9;"), 1, 0, 102, 12);
  }

  /** Section 3, "of several the first by A, then by B"; "(A below B)". */
  private static void bestTheFirstByTheLowerYardThenByTheOther() {
    best("a row", Due.told("hill 4 1;worker 3 20 0 1;deed 0 0 11 10 9;"), 1, 0, 1, 12);
    best("a column", Due.told("hill 1 4;worker 3 20 0 1;deed 0 0 11 10 9;"), 1, 0, 1, 12);
    // worker in 0; deeds to the right and below, alike: the one to the right is the first by B
    String corner = "hill 2 2;wall 1 3 3;wall 2 3 3;felt 1 3 9;felt 2 3 9;worker 0 20 0 1;";
    best("right and below alike", Due.told(corner + "deed 2 0 5 16 9;deed 1 6 11 16 9;"), 1, 0, 1, 6);
    best("below brings more", Due.told(corner + "deed 2 0 6 16 9;deed 1 7 11 16 9;"), 1, 0, 2, 7);
    best("right brings more", Due.told(corner + "deed 2 0 4 16 9;deed 1 5 11 16 9;"), 1, 0, 1, 7);
    // the pair 0 2 (below) is ahead of 1 3 and of 2 3, as A is 0
    String three = "hill 2 2;wall 0 1 3;felt 0 1 9;worker 0 20 0 1;deed 3 0 11 13 9;";
    best("by A first", Due.told(three), 1, 0, 2, 12);
    best("by A: 1 3 ahead of 2 3", Due.told("hill 2 2;worker 3 20 0 1;deed 1 0 5 16 9;deed 2 6 11 16 9;"), 1, 0, 103, 6);
    // the way from 1 by 0 and 2 to 3; of its three pairs 0 1 is the first
    best("0 1 ahead of 0 2", Due.told("hill 2 2;wall 1 3 3;felt 1 3 9;worker 1 20 0 1;deed 3 0 11 10 9;"), 1, 0, 1, 12);
  }

  /** Promise 16, "100 A and B": the greatest hill's last pairs. */
  private static void bestTheLastPair() {
    StringBuilder text = new StringBuilder("hill 8 6;wall 38 39 3;wall 45 46 3;felt 38 46 9;wall 38 46 3;");
    best("46 47", Due.told(text + "wall 39 47 3;felt 39 47 9;worker 47 20 0 1;deed 46 0 11 16 9;"), 1, 0, 4647, 12);
    best("39 47", Due.told(text + "wall 46 47 3;felt 46 47 9;worker 47 20 0 1;deed 39 0 11 16 9;"), 1, 0, 3947, 12);
  }

  /** Promise 16, "PAID or FREE": what was paid is saved, what was free is none. */
  private static void bestPaidAndFree() {
    QuietYards y = Due.told("hill 2 1;worker 0 20 0 8;deed 1 0 11 16 3;");
    Due.same("paid before", y.day(1), 60);
    best("paid", y, 1, 1, 1, 96);
    Due.same("free before", y.day(0), 0);
    best("free", y, 1, 0, 1, 96);
    QuietYards gift = Due.told("hill 2 1;worker 0 20 0 8;deed 1 0 11 16 0;");
    best("nothing to save", gift, 1, 1, Edge.NONE, Edge.NONE);
    best("free all the same", gift, 1, 0, 1, 96);
  }

  /** Promise 16: what it tries is not built. */
  private static void bestLeavesAll() {
    for (Edge.Made made : Edge.Made.values()) {
      for (int i = 0; i < 8; i++) {
        int kind = i & 1;
        int paid = i >> 1 & 1;
        int what = i >> 2;
        long due = made.make().best(kind, paid, what);
        Edge.leaves(made, "best " + kind + " " + paid + " " + what, due, y -> y.best(kind, paid, what));
      }
    }
  }

  /** Promise 16, "BAD": kind, paid, what beyond. */
  private static void bestRefused() {
    for (int bit : Edge.outside(0, 1)) {
      Edge.refused("best kind " + bit, Edge.BAD, y -> y.best(bit, 0, 0));
      Edge.refused("best paid " + bit, Edge.BAD, y -> y.best(0, bit, 0));
      Edge.refused("best what " + bit, Edge.BAD, y -> y.best(1, 1, bit));
    }
  }

  // ---- promise 17

  private static void saw(String what, QuietYards y, int n, int hour, int yard, int owes) {
    Due.same(what + ", the yard", y.saw(n, hour, 0), yard);
    Due.same(what + ", owes", y.saw(n, hour, 1), owes);
  }

  /** Promise 17, "n 1 .. 99". */
  private static void sawLeastAndMostNoise() {
    QuietYards y = Due.told("hill 2 1;deed 0 0 11 0 9;deed 1 0 11 0 7;");
    y.fade(1);
    saw("noise 1", y, 1, 0, 0, 0);
    saw("noise 2", y, 2, 0, 0, 7);
    saw("noise 99", y, 99, 0, 0, 7);
    QuietYards limit = Due.told("hill 2 1;deed 0 0 11 96 9;deed 1 0 11 95 7;");
    saw("noise 98", limit, 98, 0, 0, 0);
    saw("noise 99 is heard by 96: above 95, not above 96", limit, 99, 0, 1, 0);
  }

  /** Section 3, "(as a WORKER there: DEEDS of its own YARD it does not BREAK)". */
  private static void sawDoesNotBreakDeedsOfItsOwnYard() {
    saw("one yard", Due.told("hill 1 1;deed 0 0 11 0 99;"), 99, 0, 0, 0);
    saw("in the dearest yard", Due.told("hill 3 1;deed 0 0 11 0 5;deed 1 0 11 0 6;deed 2 0 11 0 4;"), 99, 0, 1, 9);
  }

  /** Section 2, BROKEN, for a saw: just the limit, and one above. */
  private static void sawAboveTheLimitAlone() {
    QuietYards y = Due.told("hill 2 1;deed 0 0 11 10 9;deed 1 0 11 10 9;");
    saw("just", y, 13, 0, 0, 0);
    saw("one above", y, 14, 0, 0, 9);
  }

  /** Section 3, "A SAW .. alone": workers that there are do not add to it. */
  private static void sawIsAlone() {
    String deeds = "deed 0 0 11 10 9;deed 1 0 11 10 9;";
    saw("with six workers", Due.told("hill 2 1;" + "worker 0 99 0 9;".repeat(3) + "worker 1 99 0 9;".repeat(3) + deeds),
        13, 0, 0, 0);
  }

  /** Section 3, "of several the least": yard 0 if all are alike, the first that is less otherwise. */
  private static void sawTheLeastYardOfSeveral() {
    saw("no deeds", new QuietYards(), 99, 0, 0, 0);
    saw("deeds of price 0", Due.told("deed 5 0 11 0 0;deed 6 0 11 0 0;"), 99, 0, 0, 0);
    saw("two alike", Due.told("hill 3 1;deed 1 0 11 0 5;deed 2 0 11 0 5;"), 99, 0, 1, 5);
    saw("two that owe nothing", Due.told("hill 5 1;deed 2 0 11 3 5;"), 9, 0, 0, 0);
    saw("the second of them", Due.told("hill 5 1;deed 1 0 11 3 5;deed 0 0 11 9 9;"), 9, 0, 1, 0);
  }

  /** Promise 17, "the YARD": the greatest there is. */
  private static void sawTheLastYard() {
    saw("47", Due.told("hill 8 6;deed 47 0 11 0 9;"), 99, 0, 47, 0);
    saw("46, cheaper by 1", Due.told("hill 8 6;deed 47 0 11 0 8;deed 46 0 11 0 9;"), 99, 0, 46, 8);
  }

  /** Section 3, "A SAW .. in an HOUR": deeds count in the hours they hold alone, the first and the last too. */
  private static void sawInTheHoursOfDeeds() {
    QuietYards y = Due.told("hill 2 1;deed 0 0 0 0 5;deed 1 0 0 0 6;deed 0 11 11 0 4;deed 1 11 11 0 3;deed 0 0 11 99 99;");
    saw("hour 0", y, 50, 0, 1, 5);
    saw("hour 1", y, 50, 1, 0, 0);
    saw("hour 10", y, 50, 10, 0, 0);
    saw("hour 11", y, 50, 11, 0, 3);
  }

  /** Promise 17, "what it owes": as much as may be, and each deed once. */
  private static void sawOwesTheMost() {
    StringBuilder text = new StringBuilder("hill 8 1;");
    for (int d = 0; d < 8; d++) text.append("deed ").append(d).append(" 0 11 0 99;");
    saw("all but its own", Due.told(text.toString()), 99, 0, 0, 7 * 99);
    saw("eight in another yard of two: one holds", Due.told("hill 1 2;" + "deed 1 0 11 0 99;".repeat(8)), 99, 0, 1, 0);
  }

  /** Promise 17: the saw is not there behind the call. */
  private static void sawLeavesAll() {
    for (Edge.Made made : Edge.Made.values()) {
      for (int hour = 0; hour < 12; hour += 11) {
        int then = hour;
        long where = made.make().saw(99, then, 0);
        long owes = made.make().saw(1, then, 1);
        Edge.leaves(made, "saw 99", where, y -> y.saw(99, then, 0));
        Edge.leaves(made, "saw 1", owes, y -> y.saw(1, then, 1));
      }
    }
  }

  /** Promise 17, "BAD": n, hour, what beyond. */
  private static void sawRefused() {
    for (int n : Edge.outside(1, 99)) Edge.refused("saw noise " + n, Edge.BAD, y -> y.saw(n, 0, 0));
    for (int hour : Edge.outside(0, 11)) Edge.refused("saw hour " + hour, Edge.BAD, y -> y.saw(9, hour, 0));
    for (int what : Edge.outside(0, 1)) Edge.refused("saw what " + what, Edge.BAD, y -> y.saw(9, 11, what));
  }
}
