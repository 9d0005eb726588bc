/** Promises 18 to 21, sentence by sentence where one names an edge: hear, forget, who, price. */
final class EdgesOfHearsayTest {
  public static void main(String[] args) {
    sixPiecesAtMost();
    sameYardAgainIsOneMore();
    everyYardAndEveryLoudness();
    hearRefused();
    badAheadOfFull();
    forgetNoneAndSix();
    forgetAlone();
    noneToldAllSets();
    setsOfNobody();
    setsOfSix();
    justSoLoud();
    inEachYardTold();
    noSets();
    asLoudAsMayBe();
    whoLeavesAll();
    whoRefused();
    priceLeastAndMost();
    priceWhereNothingIsSoldOrBought();
    priceOfOneNumberAlone();
    priceThatThereIsNot();
    priceAsksWhoHoldsThen();
    priceOfAll();
    priceRefused();
    Due.close("EdgesOfHearsayTest");
  }

  private static void who(String what, QuietYards y, int sets, int inAll, int inSome) {
    Due.same(what + ", sets", y.who(0), sets);
    Due.same(what + ", in all", y.who(1), inAll);
    Due.same(what + ", in some", y.who(2), inSome);
  }

  // ---- promise 18

  /** Promise 18, "how much there is", "FULL"; section 3, "HEARSAY (6 at most)". */
  private static void sixPiecesAtMost() {
    QuietYards y = new QuietYards();
    for (int i = 1; i <= 6; i++) {
      Due.same("piece " + i, y.hear(i, 0), i);
      Due.same("count", y.count(4), i);
    }
    Due.same("the seventh", y.hear(7, 0), Edge.FULL);
    Due.same("six stay", y.count(4), 6);
    Due.same("forgotten", y.forget(), 6);
    Due.same("room again", y.hear(7, 0), 1);
    Edge.refused(Edge.Made.MOST, "hear a seventh", Edge.FULL, made -> made.hear(0, 0));
    Edge.refused(Edge.Made.MOST, "hear a seventh, loud", Edge.FULL, made -> made.hear(3, 999));
  }

  /** Promise 18: what is told of one yard twice are two pieces, alike or not. */
  private static void sameYardAgainIsOneMore() {
    QuietYards y = Due.told("worker 0 20 0 0;");
    Due.same("once", y.hear(0, 20), 1);
    Due.same("twice", y.hear(0, 20), 2);
    who("alike", y, 1, 1, 1);
    Due.same("otherwise", y.hear(0, 0), 3);
    who("not alike", y, 0, Edge.NONE, 0);
  }

  /** Section 3, "in a YARD so loud (0 .. 999)": the first and the last yard, the least and the greatest number. */
  private static void everyYardAndEveryLoudness() {
    for (Edge.Made made : Edge.Made.values()) {
      for (int loud : new int[] {0, 1, 998, 999}) {
        QuietYards y = made.make();
        y.forget();
        Due.same("first yard", y.hear(0, loud), 1);
        Due.same("last yard", y.hear(made.yards - 1, loud), 2);
      }
    }
    Due.same("47", Due.told("hill 8 6;").hear(47, 999), 1);
  }

  /** Promise 18, "BAD": no such yard, a loudness beyond. */
  private static void hearRefused() {
    for (int loud : Edge.outside(0, 999)) Edge.refused("hear so loud " + loud, Edge.BAD, y -> y.hear(0, loud));
    for (Edge.Made made : Edge.Made.values()) {
      for (int yard : Edge.outside(0, made.yards - 1)) {
        Edge.refused(made, "hear in " + yard, Edge.BAD, y -> y.hear(yard, 0));
      }
    }
  }

  /** "Refused .. the first of these: BAD, STATE, FULL": six are told, and the yard or the loudness is wrong, too. */
  private static void badAheadOfFull() {
    Edge.refused(Edge.Made.MOST, "a seventh in no yard", Edge.BAD, y -> y.hear(4, 0));
    Edge.refused(Edge.Made.MOST, "a seventh below all yards", Edge.BAD, y -> y.hear(-1, 0));
    Edge.refused(Edge.Made.MOST, "a seventh too loud", Edge.BAD, y -> y.hear(0, 1000));
    Edge.refused(Edge.Made.MOST, "a seventh below silence", Edge.BAD, y -> y.hear(0, -1));
    Edge.refused(Edge.Made.MOST, "a seventh, all wrong", Edge.BAD, y -> y.hear(4, 1000));
  }

  // ---- promise 19

  /** Promise 19, "how much there was": none to six, then none. */
  private static void forgetNoneAndSix() {
    for (int n = 0; n <= 6; n++) {
      QuietYards y = Due.told("worker 0 20 0 0;");
      for (int i = 0; i < n; i++) y.hear(0, 7);
      Due.same("of " + n, y.forget(), n);
      Due.same("none then", y.count(4), 0);
      who("all sets again", y, 2, 0, 1);
      Due.same("none to forget", y.forget(), 0);
    }
  }

  /** Promise 19: HEARSAY alone; that of images stays. */
  private static void forgetAlone() {
    QuietYards y = Due.told("worker 0 20 0 0;");
    y.hear(0, 20);
    y.keep(0);
    Due.same("one", y.forget(), 1);
    Due.same("the image has it", y.back(0), 1);
    who("as it was", y, 1, 1, 1);
    Edge.leaves(Edge.Made.NEW, "forget nothing", 0, QuietYards::forget);
  }

  // ---- promise 20

  /** Section 3, "(none told: all sets)". */
  private static void noneToldAllSets() {
    for (int n = 0; n <= 6; n++) who(n + " workers", Due.told("worker 0 1 0 0;".repeat(n)), 1 << n, 0, (1 << n) - 1);
  }

  /** Section 3, WHO without workers: the empty set alone, by which it is silent. */
  private static void setsOfNobody() {
    QuietYards y = new QuietYards();
    who("none told", y, 1, 0, 0);
    y.hear(11, 0);
    who("silence", y, 1, 0, 0);
    y.hear(11, 1);
    who("not silent", y, 0, Edge.NONE, 0);
  }

  /** Promise 20, "how many sets": of six workers, from 64 to those of just three. */
  private static void setsOfSix() {
    QuietYards y = Due.told("worker 5 10 0 0;".repeat(6));
    int[] sets = {1, 6, 15, 20, 15, 6, 1};
    for (int n = 0; n <= 6; n++) {
      y.forget();
      y.hear(5, 10 * n);
      who(n + " of six", y, sets[n], n == 6 ? 63 : 0, n == 0 ? 0 : 63);
    }
    QuietYards last = Due.told("worker 5 10 0 0;".repeat(5) + "worker 5 99 0 0;");
    last.hear(5, 99);
    who("the last alone", last, 1, 32, 32);
  }

  /** Section 3, "it is just so": one louder or less does not fit; those that work in the yard count. */
  private static void justSoLoud() {
    for (int loud = 18; loud <= 24; loud++) {
      QuietYards y = Due.told("worker 0 20 0 0;worker 1 24 0 0;");
      y.hear(0, loud);
      int set = loud == 20 ? 1 : loud == 21 ? 2 : 0;
      who("so loud " + loud, y, set == 0 ? 0 : 1, set == 0 ? Edge.NONE : set, set);
    }
    QuietYards both = Due.told("worker 0 20 0 0;worker 1 24 0 0;");
    both.hear(0, 41);
    who("20 and 21", both, 1, 3, 3);
  }

  /** Section 3, "in each YARD told": six yards, the last of which tells two apart. */
  private static void inEachYardTold() {
    QuietYards y = Due.told("hill 7 1;worker 0 60 0 0;worker 6 60 0 0;worker 3 51 0 0;");
    int[] louds = {60 + 42, 57 + 45, 54 + 48, 51 + 51, 48 + 54, 45 + 57};
    for (int yard = 0; yard < 6; yard++) y.hear(yard, louds[yard]);
    who("six yards", y, 1, 3, 3);
    y.forget();
    for (int i = 0; i < 5; i++) y.hear(3, 51);
    who("one of three", y, 3, 0, 7);
    Due.same("the sixth", y.hear(0, 42), 6);
    who("one of two", y, 2, 0, 6);
  }

  /** Promise 20, "1; NONE: no sets", "2; no sets: 0". */
  private static void noSets() {
    for (int n = 0; n <= 6; n++) {
      QuietYards y = Due.told("worker 0 2 0 0;".repeat(n));
      y.hear(0, 1);
      who("no sets of " + n, y, 0, Edge.NONE, 0);
    }
  }

  /** Section 3, "so loud (0 .. 999)": 594 is the loudest that six can be, 999 fits nobody. */
  private static void asLoudAsMayBe() {
    QuietYards y = Due.told("worker 5 99 0 0;".repeat(6));
    y.hear(5, 594);
    who("594", y, 1, 63, 63);
    y.forget();
    y.hear(5, 595);
    who("595", y, 0, Edge.NONE, 0);
    y.forget();
    y.hear(5, 999);
    who("999", y, 0, Edge.NONE, 0);
  }

  /** Promise 20: asking changes nothing. */
  private static void whoLeavesAll() {
    for (Edge.Made made : Edge.Made.values()) {
      for (int what = 0; what < 3; what++) {
        int ask = what;
        Edge.leaves(made, "who " + what, made.make().who(ask), y -> y.who(ask));
      }
    }
  }

  /** Promise 20, "BAD". */
  private static void whoRefused() {
    for (int what : Edge.outside(0, 2)) Edge.refused("who " + what, Edge.BAD, y -> y.who(what));
  }

  // ---- promise 21

  private static void price(String what, QuietYards y, int hour, int least, int greatest) {
    Due.same(what + ", least", y.price(hour, 0), least);
    Due.same(what + ", greatest", y.price(hour, 1), greatest);
  }

  /** Section 3, "prices v (0 .. 99)": the least and the greatest number. */
  private static void priceLeastAndMost() {
    price("nobody at all", new QuietYards(), 0, 0, 99);
    price("worth 0 buys at 0 alone", Due.told("worker 0 1 0 0;"), 0, 1, 99);
    price("price 0 and worth 99", Due.told("worker 0 1 0 99;deed 0 0 11 0 0;"), 0, 0, 99);
    price("price 0 and worth 0", Due.told("worker 0 1 0 0;deed 0 0 11 0 0;"), 0, 0, 0);
    price("price 99 and worth 99", Due.told("worker 0 1 0 99;deed 0 0 11 0 99;"), 0, 99, 99);
    price("price 99 and worth 0", Due.told("worker 0 1 0 0;deed 0 0 11 0 99;"), 0, 1, 98);
    price("price 99 alone", Due.told("deed 0 0 11 0 99;"), 0, 0, 98);
    price("worth 98 alone", Due.told("worker 0 1 0 98;"), 0, 99, 99);
  }

  /** Section 3, "as many": none and none is as many. */
  private static void priceWhereNothingIsSoldOrBought() {
    price("below the price, above the worth", Due.told("worker 0 1 0 30;deed 0 0 11 0 60;"), 0, 31, 59);
    price("an hour nobody owns", Due.told("worker 0 1 0 30;deed 0 0 5 0 60;"), 6, 31, 99);
  }

  /** Section 3, "the least such v, the greatest": one v alone is both. */
  private static void priceOfOneNumberAlone() {
    price("between 49 and 51", Due.told("worker 0 1 0 49;deed 0 0 11 0 51;"), 0, 50, 50);
    price("50 and 50", Due.told("worker 0 1 0 50;deed 0 0 11 0 50;"), 0, 50, 50);
  }

  /** Promise 21, "NONE": at no v as many. */
  private static void priceThatThereIsNot() {
    price("worth 99, nobody sells", Due.told("worker 0 1 0 99;"), 0, Edge.NONE, Edge.NONE);
    price("price 0, nobody buys", Due.told("deed 0 0 11 0 0;"), 0, Edge.NONE, Edge.NONE);
    price("two buy to 49, one sells from 49, and from 50 one alone", Due.told("worker 0 1 0 49;worker 0 1 0 49;"
        + "deed 0 0 11 0 49;"), 0, Edge.NONE, Edge.NONE);
    price("one buys to 50, sold by two from 51 to 99, and by none before", Due.told("worker 0 1 0 51;deed 0 0 11 0 51;"
        + "deed 1 0 11 0 51;"), 0, Edge.NONE, Edge.NONE);
  }

  /** Section 3, "by all DEEDS that hold in it": the hours of deeds, their first and last, and CLASH. */
  private static void priceAsksWhoHoldsThen() {
    QuietYards y = Due.told("worker 0 1 0 40;deed 0 3 5 0 20;deed 0 5 7 0 60;deed 0 11 11 0 0;deed 1 0 0 0 30;");
    price("hour 0", y, 0, 30, 40);
    price("hour 1", y, 1, 41, 99);
    price("hour 2", y, 2, 41, 99);
    price("hour 3", y, 3, 20, 40);
    price("hour 5: the first alone", y, 5, 20, 40);
    price("hour 6: the second", y, 6, 41, 59);
    price("hour 7", y, 7, 41, 59);
    price("hour 8", y, 8, 41, 99);
    price("hour 10", y, 10, 41, 99);
    price("hour 11", y, 11, 0, 40);
  }

  /** Promise 21 with six workers and eight deeds. */
  private static void priceOfAll() {
    StringBuilder text = new StringBuilder();
    for (int w = 0; w < 6; w++) text.append("worker 0 1 0 ").append(10 * w + 40).append(';');
    for (int d = 0; d < 8; d++) text.append("deed ").append(d).append(" 0 11 0 ").append(10 * d + 20).append(';');
    // sellers 1 .. 8 from 20, 30 .. 90; buyers 6 to 40, 5 to 50, 4 to 60 ..: four and four from 51 to 59
    price("four and four", Due.told(text.toString()), 11, 51, 59);
  }

  /** Promise 21, "BAD": hour, what beyond. */
  private static void priceRefused() {
    for (int hour : Edge.outside(0, 11)) Edge.refused("price hour " + hour, Edge.BAD, y -> y.price(hour, 0));
    for (int what : Edge.outside(0, 1)) Edge.refused("price what " + what, Edge.BAD, y -> y.price(11, what));
  }
}
