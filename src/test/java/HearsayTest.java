/** Promises 18 to 21: hearsay, who it could have been, and prices that stand. */
final class HearsayTest {
  private static final int[] WRONG = {Integer.MIN_VALUE, -1, Integer.MAX_VALUE};

  public static void main(String[] args) {
    hear();
    hearRefused();
    forget();
    who();
    whoOfNobody();
    price();
    priceEdges();
    priceRefused();
    Due.close("HearsayTest");
  }

  private static void hear() {
    QuietYards y = new QuietYards();
    for (int i = 1; i <= 6; i++) Due.same("hear " + i, y.hear(11, 0), i);
    Due.same("full", y.hear(0, 0), -3);
    Due.same("full stays", y.count(4), 6);
    Due.same("bad yard ahead of full", y.hear(12, 0), -1);
    Due.same("bad loud ahead of full", y.hear(0, 1000), -1);
    y.forget();
    Due.same("greatest", y.hear(11, 999), 1);
    Due.same("least", y.hear(0, 0), 2);
  }

  private static void hearRefused() {
    QuietYards y = Due.told("worker 0 20 0 0;");
    Due.same("told", y.hear(1, 17), 1);
    Due.same("loud 1000", y.hear(1, 1000), -1);
    Due.same("yard 12", y.hear(12, 5), -1);
    for (int wrong : WRONG) {
      Due.same("yard " + wrong, y.hear(wrong, 5), -1);
      Due.same("loud " + wrong, y.hear(1, wrong), -1);
    }
    Due.same("nothing was added", y.count(4), 1);
    Due.same("nothing changes", y.who(1), 1);
  }

  private static void forget() {
    QuietYards y = Due.told("worker 0 20 0 0;");
    Due.same("nothing", y.forget(), 0);
    y.hear(0, 1);
    y.hear(0, 2);
    Due.same("two", y.forget(), 2);
    Due.same("none left", y.count(4), 0);
    Due.same("all sets again", y.who(0), 2);
  }

  private static void who() {
    QuietYards y = Due.told("hill 4 1;worker 0 20 0 0;worker 3 14 0 0;worker 2 11 0 0;worker 0 20 0 0;worker 3 1 0 0;");
    // heard in 1: 17, 8, 8, 17, 0
    Due.same("none told: all sets", y.who(0), 32);
    Due.same("nobody is in all", y.who(1), 0);
    Due.same("anybody in some", y.who(2), 31);
    Due.same("25 in 1", y.hear(1, 25), 1);
    Due.same("one of two, one of two, or not the last", y.who(0), 8);
    Due.same("in all", y.who(1), 0);
    Due.same("in some", y.who(2), 31);
    y.hear(0, 25);
    // heard in 0: 20, 5, 5, 20, 0
    Due.same("the same by both", y.who(0), 8);
    y.hear(3, 12);
    // heard in 3: 11, 14, 8, 11, 1: 25 by 0 or 3 and 1; 19 by 0 or 3 and 2; and 1 more: none is 12
    Due.same("no sets", y.who(0), 0);
    Due.same("in all of none", y.who(1), -9);
    Due.same("in some of none", y.who(2), 0);
    y.forget();
    y.hear(3, 19);
    // 11 + 8 by 2 and one of 0, 3
    Due.same("two sets", y.who(0), 2);
    Due.same("2 in both", y.who(1), 4);
    Due.same("0, 2, 3 in some", y.who(2), 13);
    y.hear(3, 19);
    Due.same("told twice", y.who(0), 2);
    y.hear(3, 20);
    Due.same("not both", y.who(0), 0);
    y.forget();
    y.hear(3, 0);
    Due.same("silence", y.who(0), 1);
    Due.same("nobody in all", y.who(1), 0);
    Due.same("nobody in some", y.who(2), 0);
    y.forget();
    y.hear(3, 45);
    Due.same("everybody but one", y.who(1), 31);
    y.build(0, 1, 0, 1);
    Due.same("a wall changes what fits", y.who(0), 0);
    for (int wrong : WRONG) Due.same("what " + wrong, y.who(wrong), -1);
    Due.same("what 3", y.who(3), -1);
    QuietYards loud = Due.told("worker 5 99 0 0;".repeat(6));
    loud.hear(5, 594);
    Due.same("all six", loud.who(1), 63);
    loud.hear(5, 999);
    Due.same("never so loud", loud.who(0), 0);
  }

  private static void whoOfNobody() {
    QuietYards y = new QuietYards();
    Due.same("one set", y.who(0), 1);
    Due.same("empty", y.who(1), 0);
    Due.same("none", y.who(2), 0);
    y.hear(3, 0);
    Due.same("silent", y.who(0), 1);
    y.hear(3, 1);
    Due.same("not", y.who(0), 0);
    Due.same("not in all", y.who(1), -9);
  }

  private static void price() {
    QuietYards y = Due.told("worker 0 9 0 30;worker 1 9 0 50;worker 2 9 0 70;"
        + "deed 0 0 5 0 20;deed 1 0 5 0 40;deed 2 3 8 0 60;deed 0 5 9 0 10;");
    // hour 0: sellers 0, from 20: 1, from 40: 2; buyers to 30: 3, to 50: 2, to 70: 1, then 0
    Due.same("least", y.price(0, 0), 40);
    Due.same("greatest", y.price(0, 1), 50);
    // hour 5: sellers 1, 2, 3 from 20, 40, 60 (deed 3 clashes with 0)
    Due.same("three sellers, least", y.price(5, 0), 40);
    Due.same("three sellers, greatest", y.price(5, 1), 50);
    // hour 6: sellers from 10: 1, from 60: 2
    Due.same("hour 6", y.price(6, 0), 51);
    Due.same("hour 6, greatest", y.price(6, 1), 59);
    Due.same("hour 9: from 10 one", y.price(9, 0), 51);
    Due.same("to 70", y.price(9, 1), 70);
    Due.same("hour 11: nobody sells", y.price(11, 0), 71);
    Due.same("to the end", y.price(11, 1), 99);
  }

  private static void priceEdges() {
    QuietYards none = Due.told("worker 0 9 0 99;");
    Due.same("one buys at any price", none.price(0, 0), -9);
    Due.same("no greatest", none.price(0, 1), -9);
    QuietYards gives = Due.told("deed 0 0 0 0 0;");
    Due.same("one sells at any price", gives.price(0, 1), -9);
    Due.same("any in an hour of none", gives.price(1, 0), 0);
    Due.same("any to 99", gives.price(1, 1), 99);
    QuietYards jump = Due.told("worker 0 9 0 50;deed 0 0 11 0 50;");
    Due.same("50 alone", jump.price(3, 0), 50);
    Due.same("and no more", jump.price(3, 1), 50);
    QuietYards over = Due.told("worker 0 9 0 49;deed 0 0 11 0 51;");
    Due.same("nobody at 50", over.price(3, 0), 50);
    Due.same("nobody to 50", over.price(3, 1), 50);
    QuietYards both = Due.told("worker 0 9 0 49;worker 0 9 0 49;deed 0 0 11 0 49;");
    Due.same("two or one at 49, then none and one", both.price(3, 0), -9);
    QuietYards zero = Due.told("worker 0 9 0 0;");
    Due.same("worth 0 buys at 0", zero.price(0, 0), 1);
    QuietYards last = Due.told("worker 0 9 0 99;deed 0 0 11 0 99;");
    Due.same("99", last.price(11, 0), 99);
  }

  private static void priceRefused() {
    QuietYards y = new QuietYards();
    Due.same("hour 12", y.price(12, 0), -1);
    Due.same("what 2", y.price(0, 2), -1);
    for (int wrong : WRONG) {
      Due.same("hour " + wrong, y.price(wrong, 0), -1);
      Due.same("what " + wrong, y.price(0, wrong), -1);
    }
  }
}
