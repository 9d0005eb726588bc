/** Promises 14 to 17: the best plan, a day, the best wall and felt, a saw. */
final class PlansTest {
  private static final int[] WRONG = {Integer.MIN_VALUE, -1, 12, Integer.MAX_VALUE};

  public static void main(String[] args) {
    planFree();
    planPaid();
    leastBits();
    planRefused();
    day();
    bestWall();
    bestFelt();
    bestOfSeveral();
    bestNone();
    bestChangesNothing();
    saw();
    sawRefused();
    Due.close("PlansTest");
  }

  /** A row: workers in yards 0, 2 and 4, a deed in yard 1 by day, in yard 3 at noon. */
  private static QuietYards row() {
    return Due.told("hill 5 1;worker 0 20 0 10;worker 2 15 0 20;worker 4 30 0 6;deed 1 0 11 18 7;deed 3 4 7 24 9;");
  }

  private static void planFree() {
    QuietYards y = row();
    // heard in 1: 17, 12, 21; in 3: 11, 12, 27
    Due.same("hour 0", y.plan(0, 0, 0), 2);
    Due.same("brings", y.plan(0, 0, 1), 20);
    Due.same("hour 5", y.plan(5, 0, 0), 2);
    y.build(1, 2, 0, 2);
    // heard in 1: 17, 3, then (27 - 3 - 3) by way of 2: 24 - 3 = 21 / 4 = 5
    Due.same("one of them with walls", y.plan(0, 0, 0), 6);
    Due.same("brings more", y.plan(0, 0, 1), 26);
    Due.same("hour 5: worker 2 is too loud in 3", y.plan(5, 0, 0), 2);
    Due.same("all without deeds", Due.told("worker 0 9 0 1;worker 1 9 0 2;").plan(11, 0, 0), 3);
    Due.same("nobody", new QuietYards().plan(0, 0, 1), 0);
  }

  private static void planPaid() {
    QuietYards y = row();
    Due.same("pays 7", y.plan(0, 1, 0), 7);
    Due.same("brings 36 - 7", y.plan(0, 1, 1), 29);
    Due.same("hour 5: two pay one", y.plan(5, 1, 0), 3);
    Due.same("all would pay both: 20", y.plan(5, 1, 1), 23);
    // all three 36 - 16 = 20; 0 and 1 break deed 0 alone (29 above 18; 23 is not above 24): 30 - 7 = 23
    QuietYards z = Due.told("hill 5 1;worker 0 20 0 10;worker 2 15 0 20;worker 4 30 0 6;deed 1 0 11 18 7;deed 3 4 7 24 99;");
    Due.same("too dear", z.plan(5, 1, 0), 3);
    Due.same("brings 23", z.plan(5, 1, 1), 23);
    QuietYards never = Due.told("worker 0 50 0 5;deed 1 0 11 0 99;");
    Due.same("nobody is best", never.plan(0, 1, 0), 0);
    Due.same("brings nothing", never.plan(0, 1, 1), 0);
    QuietYards after = Due.told("worker 0 50 0 5;deed 1 3 3 0 99;");
    Due.same("he works", after.plan(2, 1, 0), 1);
    Due.same("an hour later he does not", after.plan(3, 1, 0), 0);
    Due.same("each deed is paid once", Due.told("worker 0 50 0 50;worker 0 50 0 50;deed 1 0 11 0 30;").plan(0, 1, 1), 70);
  }

  private static void leastBits() {
    QuietYards y = Due.told("hill 3 1;worker 0 20 0 9;worker 0 20 0 9;worker 0 20 0 0;deed 1 0 11 20 9;");
    Due.same("free: 1 of 1, 2", y.plan(0, 0, 0), 1);
    Due.same("paid: both bring 9, as one does", y.plan(0, 1, 0), 1);
    QuietYards two = Due.told("hill 3 1;worker 0 10 0 5;worker 0 10 0 5;worker 0 17 0 10;deed 1 0 11 14 50;");
    Due.same("two workers below one", two.plan(0, 0, 0), 3);
    Due.same("they bring 10", two.plan(0, 0, 1), 10);
    QuietYards idle = Due.told("worker 0 10 0 0;worker 1 10 0 0;");
    Due.same("worth nothing: nobody", idle.plan(0, 0, 0), 0);
    Due.same("paid too", idle.plan(0, 1, 0), 0);
  }

  private static void planRefused() {
    QuietYards y = row();
    String before = Due.seen(y);
    for (int wrong : WRONG) {
      Due.same("hour " + wrong, y.plan(wrong, 0, 0), -1);
      Due.same("paid " + wrong, y.plan(0, wrong, 0), -1);
      Due.same("what " + wrong, y.plan(0, 0, wrong), -1);
      Due.same("day paid " + wrong, y.day(wrong), -1);
      Due.same("best kind " + wrong, y.best(wrong, 0, 0), -1);
      Due.same("best paid " + wrong, y.best(0, wrong, 0), -1);
      Due.same("best what " + wrong, y.best(0, 0, wrong), -1);
    }
    Due.same("paid 2", y.plan(0, 2, 0), -1);
    Due.same("what 2", y.plan(0, 0, 2), -1);
    Due.same("day 2", y.day(2), -1);
    Due.same("kind 2", y.best(2, 0, 0), -1);
    Due.same("best paid 2", y.best(0, 2, 0), -1);
    Due.same("best what 2", y.best(0, 0, 2), -1);
    Due.same("nothing changes", Due.seen(y), before);
  }

  private static void day() {
    QuietYards y = row();
    Due.same("free", y.day(0), 12 * 20);
    // hours 4 .. 7: 30 - 7 = 23 by workers 0 and 1, more than 20 by 1 alone or all
    Due.same("paid", y.day(1), 8 * 29 + 4 * 23);
    Due.same("most", Due.told("worker 0 9 0 99;".repeat(6)).day(0), 12 * 594);
    Due.same("one hour owned", Due.told("worker 0 9 0 5;deed 1 3 3 0 4;").day(0), 55);
    Due.same("one hour paid", Due.told("worker 0 9 0 5;deed 1 3 3 0 4;").day(1), 56);
    Due.same("hours that clash are paid once", Due.told("worker 0 9 0 5;deed 1 3 3 0 4;deed 1 3 4 0 1;").day(1), 55);
  }

  private static void bestWall() {
    QuietYards y = Due.told("hill 5 1;worker 0 40 0 10;deed 4 0 11 10 99;");
    // heard in 4: 28; a wall near the deed halves 28, near the worker 37 less: 18 - 9 = 9
    Due.same("free day", y.day(0), 0);
    Due.same("first that lets it work", y.best(0, 0, 0), 1);
    Due.same("brings all", y.best(0, 0, 1), 120);
    Due.same("paid the same", y.best(0, 1, 0), 1);
    y.build(0, 1, 0, 3);
    Due.same("silent already", y.best(0, 0, 0), -9);
    QuietYards full = Due.told("hill 3 1;wall 0 1 3;worker 0 99 0 10;deed 2 0 11 4 99;");
    // heard in 2: 96 / 8 - 3 = 9; a wall more between 1 and 2: 9 / 2 = 4
    Due.same("a pair with 3 walls is left out", full.best(0, 0, 0), 102);
    QuietYards column = Due.told("hill 1 3;worker 0 12 0 10;deed 1 0 0 4 9;");
    Due.same("below", column.best(0, 0, 0), 1);
    Due.same("one hour more", column.best(0, 0, 1), 120);
  }

  private static void bestFelt() {
    QuietYards y = Due.told("hill 5 1;worker 0 40 0 10;deed 4 0 11 27 99;");
    Due.same("an ell does", y.best(1, 0, 0), 1);
    Due.same("brings all", y.best(1, 0, 1), 120);
    y.build(0, 1, 1, 9);
    Due.same("quiet by felt", y.best(1, 0, 0), -9);
    QuietYards full = Due.told("hill 3 1;felt 0 1 9;worker 0 40 0 10;deed 2 0 11 24 99;");
    // heard in 2: 37 - 9 - 3 = 25
    Due.same("a pair with 9 ells is left out", full.best(1, 0, 0), 102);
    full.build(1, 2, 1, 9);
    full.fade(1);
    Due.same("no pair has room", full.best(1, 1, 1), -9);
  }

  private static void bestOfSeveral() {
    QuietYards y = Due.told("hill 2 2;wall 0 2 3;wall 2 3 3;worker 1 20 0 9;deed 0 0 11 12 50;deed 3 0 11 12 50;worker 0 20 0 0;");
    // a wall frees worker 0 of one deed alone, and worker 1 is worth nothing
    Due.same("none brings more", y.best(0, 0, 0), -9);
    QuietYards pairs = Due.told("hill 2 2;worker 0 20 0 5;worker 3 20 0 5;deed 1 0 11 16 6;deed 2 0 11 16 6;");
    Due.same("nobody at first", pairs.day(0), 0);
    QuietYards apart = Due.told("hill 4 1;wall 1 2 3;worker 0 20 0 5;deed 1 0 11 16 9;worker 3 20 0 5;deed 2 0 11 16 9;");
    Due.same("the first of two alike", apart.best(0, 0, 0), 1);
    Due.same("brings", apart.best(0, 0, 1), 60);
    QuietYards later = Due.told("hill 4 1;wall 1 2 3;worker 0 20 0 5;deed 1 0 11 16 9;worker 3 20 0 6;deed 2 0 11 16 9;");
    Due.same("the later brings more", later.best(0, 0, 0), 203);
    Due.same("72", later.best(0, 0, 1), 72);
    QuietYards right = Due.told("hill 2 2;wall 1 3 3;wall 2 3 3;worker 0 20 0 5;worker 0 9 0 0;deed 1 0 5 16 9;deed 2 6 11 16 9;");
    Due.same("by A, then by B", right.best(0, 0, 0), 1);
    Due.same("its hours", right.best(0, 0, 1), 30);
    QuietYards down = Due.told("hill 2 2;wall 1 3 3;wall 2 3 3;worker 0 20 0 5;deed 1 0 4 16 9;deed 2 5 11 16 9;");
    Due.same("the one below brings more", down.best(0, 0, 0), 2);
    Due.same("7 hours", down.best(0, 0, 1), 35);
  }

  private static void bestNone() {
    Due.same("a new object", new QuietYards().best(1, 0, 1), -9);
    QuietYards one = Due.told("hill 1 1;worker 0 9 0 9;deed 0 0 11 0 0;");
    Due.same("no neighbours", one.best(0, 0, 0), -9);
    Due.same("no neighbours, what it brings", one.best(1, 1, 1), -9);
    QuietYards all = Due.told("hill 1 2;wall 0 1 3;felt 0 1 9;worker 0 99 0 9;deed 1 0 11 0 0;");
    Due.same("3 walls", all.best(0, 0, 0), -9);
    Due.same("9 ells", all.best(1, 0, 0), -9);
  }

  private static void bestChangesNothing() {
    QuietYards y = Due.told("hill 3 3;wall 0 1 1;felt 4 5 2;worker 0 60 0 9;worker 8 70 0 8;deed 4 0 5 30 5;deed 2 3 9 20 4;");
    y.hear(4, 20);
    String before = Due.seen(y);
    int broken = y.broken(4, 3);
    for (int i = 0; i < 8; i++) y.best(i & 1, i >> 1 & 1, i >> 2);
    y.saw(99, 4, 0);
    Due.same("as before", Due.seen(y), before);
    Due.same("broken as before", y.broken(4, 3), broken);
  }

  private static void saw() {
    QuietYards y = Due.told("hill 5 1;worker 4 99 0 9;deed 0 0 11 10 30;deed 2 0 5 8 20;deed 4 2 11 10 40;");
    // n 17: in 2 it is heard by 11 in 0 and 4: owes 70; in 0 by 11 in 2: 20; in 1: 14 in 0, 14 in 2: 50
    Due.same("in the owner's yard", y.saw(17, 3, 0), 0);
    Due.same("owes what it breaks beyond", y.saw(17, 3, 1), 20);
    Due.same("hour 0: deed 2 does not hold; in 4 it breaks deed 1", y.saw(17, 0, 0), 0);
    Due.same("hour 6: deed 1 does not hold; 11 in 2 breaks none", y.saw(14, 6, 0), 0);
    Due.same("owes nothing", y.saw(14, 6, 1), 0);
    Due.same("quiet", y.saw(1, 3, 1), 0);
    QuietYards hours = Due.told("hill 2 2;deed 0 3 4 0 5;deed 1 4 4 0 6;deed 2 0 2 0 7;");
    Due.same("hour 4: 0 and 1 hold", hours.saw(50, 4, 0), 1);
    Due.same("hour 4: owes 5", hours.saw(50, 4, 1), 5);
    Due.same("hour 3: 0 alone", hours.saw(50, 3, 1), 0);
    Due.same("hour 1: 2 alone", hours.saw(50, 1, 0), 2);
    Due.same("hour 5: none", hours.saw(50, 5, 0), 0);
    Due.tell(hours, "");
    Due.tell(hours, "deed 0 0 11 0 9;");
    Due.same("deeds of an earlier text", hours.saw(50, 3, 1), 0);
    QuietYards far = Due.told("hill 5 1;deed 0 0 11 0 9;deed 1 0 11 0 3;");
    Due.same("far away", far.saw(9, 0, 0), 4);
    Due.same("harmless", far.saw(9, 0, 1), 0);
    Due.same("loud: owes the cheaper", far.saw(99, 0, 0), 0);
    Due.same("3", far.saw(99, 0, 1), 3);
    QuietYards limit = Due.told("hill 1 2;deed 0 0 0 7 5;");
    Due.same("just the limit", limit.saw(10, 0, 1), 0);
    QuietYards edge = Due.told("hill 3 1;deed 0 0 11 7 5;deed 2 0 11 7 4;");
    Due.same("14: in 0 it is heard by 8 in 2", edge.saw(14, 0, 0), 0);
    Due.same("owes 4", edge.saw(14, 0, 1), 4);
    edge.wind(-2, 0);
    Due.same("against the wind by 4", edge.saw(14, 0, 1), 0);
    edge.wind(2, 0);
    Due.same("with the wind: in 2", edge.saw(15, 0, 0), 2);
    Due.same("no deeds", new QuietYards().saw(99, 11, 0), 0);
  }

  private static void sawRefused() {
    QuietYards y = Due.told("worker 0 9 0 9;deed 1 0 11 0 9;");
    Due.same("noise 0", y.saw(0, 0, 0), -1);
    Due.same("noise 100", y.saw(100, 0, 0), -1);
    Due.same("what 2", y.saw(9, 0, 2), -1);
    for (int wrong : WRONG) {
      if (wrong != 12) Due.same("noise " + wrong, y.saw(wrong, 0, 0), -1);
      Due.same("hour " + wrong, y.saw(9, wrong, 0), -1);
      Due.same("what " + wrong, y.saw(9, 0, wrong), -1);
    }
    Due.same("as before", y.loud(0, 1), 6);
  }
}
