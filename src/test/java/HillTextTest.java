/** Promises 1 to 4: a new object, the text, and how it is read. */
final class HillTextTest {
  public static void main(String[] args) {
    newObject();
    typing();
    clearing();
    reading();
    toldAnew();
    sizes();
    blanksAndTokens();
    faultsOfTokens();
    faultsOfOrder();
    faultsOfNumbers();
    faultsOfEnds();
    faultsChangeNothing();
    Due.close("HillTextTest");
  }

  private static void newObject() {
    QuietYards y = new QuietYards();
    int[] counts = {4, 3, 0, 0, 0, 0, 0, 0};
    for (int what = 0; what < 8; what++) Due.same("new count " + what, y.count(what), counts[what]);
    Due.same("new wind and fade", y.trace(), 0);
    Due.same("no worker", y.worker(0, 0), -1);
    Due.same("no deed", y.deed(0, 0), -1);
    Due.same("no image", y.back(0), -2);
    Due.same("no image 1", y.back(1), -2);
    Due.same("fade at first", y.fade(1), 3);
    Due.same("yard 11 is there", y.heard(11, 63), 0);
    Due.same("yard 12 is not", y.heard(12, 63), -1);
  }

  private static void typing() {
    QuietYards y = new QuietYards();
    Due.same("n 0", y.type(1, 0), -1);
    Due.same("n 9", y.type(1, 9), -1);
    Due.same("n -1", y.type(1, -1), -1);
    Due.same("n least", y.type(1, Integer.MIN_VALUE), -1);
    Due.same("nothing came", y.count(5), 0);
    Due.same("lowest two bytes", y.type(0x6869_6c6c_7570_2031L, 2), 2);
    Due.same("the highest of them first", y.hill(), -11);
    y.clear();
    // 'x' above the lowest four bytes does not come
    Due.same("lowest bytes alone", y.type(0x7878_7878_2020_2020L, 4), 4);
    Due.same("four blanks", y.hill(), 0);
    Due.same("a byte with its top bit", y.type(-1, 1), 1);
    Due.same("begins no token", y.hill(), -10);
    y.clear();
    for (int i = 1; i <= 49; i++) Due.same("blanks", y.type(0x2020202020202020L, 8), 8 * i);
    Due.same("393", y.type(32, 1), 393);
    Due.same("full by one", y.type(0, 8), -3);
    Due.same("full leaves it", y.count(5), 393);
    Due.same("bad ahead of full", y.type(0, 9), -1);
    Due.same("just 400", y.type(0x20202020202020L, 7), 400);
    Due.same("401", y.type(32, 1), -3);
    Due.same("400 blanks are no item", y.hill(), 0);
    Due.same("empty behind hill", y.count(5), 0);
  }

  private static void clearing() {
    QuietYards y = new QuietYards();
    Due.same("clear nothing", y.clear(), 0);
    Due.type(y, "hill 9 9;nonsense");
    Due.same("clear 17", y.clear(), 17);
    Due.same("cleared", y.count(5), 0);
    Due.same("clear again", y.clear(), 0);
    Due.same("nothing of it is read", y.hill(), 0);
    Due.type(y, "hill 4 33;wallz");
    y.clear();
    Due.type(y, "hill 4 3");
    Due.same("no digit of it is read", y.hill(), -18);
    y.clear();
    Due.type(y, "hill 4 3;wal");
    Due.same("no letter of it is read", y.hill(), -19);
  }

  private static void reading() {
    QuietYards y = Due.told("hill 3 2;wall 0 1 3;wall 4 1 2;wall 1 0 1;felt 5 4 9;wind left 1;wind right 2;"
        + "wind down 1;wind up 2;worker 5 99 4 98;deed 4 2 11 97 96;deed 3 0 0 0 0;");
    Due.same("wide", y.count(0), 3);
    Due.same("high", y.count(1), 2);
    Due.same("told again", y.between(0, 1, 0), 1);
    Due.same("either way round", y.between(1, 4, 0), 2);
    Due.same("felt", y.between(4, 5, 1), 9);
    Due.same("walls", y.count(6), 3);
    Due.same("felts", y.count(7), 9);
    Due.same("worker yard", y.worker(0, 0), 5);
    Due.same("deed price", y.deed(0, 4), 96);
    // the later wind counts: right 2 (left loses 5), down -2 (up loses 1)
    Due.same("wind up", y.loud(0, 2), 98);
    Due.same("wind right, and felt", y.loud(0, 4), 85);
    QuietYards left = Due.told("wind right 2;wind left 1;wind up 2;wind down 1;worker 5 50 0 0;");
    Due.same("later left", left.loud(0, 4), 48);
    Due.same("against left", left.loud(0, 6), 46);
    Due.same("later down", left.loud(0, 9), 48);
    Due.same("against down", left.loud(0, 1), 46);
    Due.same("no items", Due.tell(y, ""), 0);
    Due.same("blanks are no items", Due.tell(y, "     "), 0);
    Due.same("one item", Due.tell(y, "wind up 0;"), 1);
    Due.same("six workers, eight deeds", Due.tell(y, "worker 0 1 0 0;".repeat(6) + "deed 0 0 0 0 0;".repeat(8)), 14);
    Due.same("workers", y.count(2), 6);
    Due.same("deeds", y.count(3), 8);
    Due.same("the least of all", Due.tell(y, "hill 1 1;worker 0 1 0 0;deed 0 0 0 0 0;"), 3);
    Due.same("the most of all", Due.tell(y, "hill 8 6;wall 46 47 3;felt 46 47 9;wind up 2;worker 47 99 4 99;"
        + "deed 47 11 11 99 99;"), 6);
    Due.same("last hour", y.deed(0, 5), 2048);
  }

  private static void toldAnew() {
    QuietYards y = Due.told("hill 2 2;wall 0 1 3;felt 0 2 4;wind right 2;worker 0 50 0 5;deed 3 0 11 5 5;");
    y.fade(5);
    y.hear(0, 50);
    y.keep(0);
    y.keep(1);
    y.rate(0, 0);
    Due.same("no hill is told", Due.tell(y, "worker 5 50 1 2;"), 1);
    int[] counts = {4, 3, 1, 0, 0, 0, 0, 0};
    for (int what = 0; what < 8; what++) Due.same("anew count " + what, y.count(what), counts[what]);
    Due.same("images are gone", y.back(0), -2);
    Due.same("both", y.back(1), -2);
    Due.same("no wind, fade stays", y.loud(0, 6), 45);
    Due.same("fade stays", y.fade(5), 5);
    Due.same("the trace goes on", y.trace(), 1);
    Due.same("no deeds any more", y.broken(0, 63), 0);
    Due.same("empty text", Due.tell(y, ""), 0);
    Due.same("no workers then", y.count(2), 0);
    Due.same("a day of nobody", y.day(1), 0);
    QuietYards often = new QuietYards();
    for (int i = 1; i < 5; i++) {
      for (int again = 0; again < i; again++) {
        Due.tell(often, "hill 5 2;wall 0 1 3;felt 5 6 9;wind left 2;wind up 2;worker 3 9 1 5;deed 0 2 3 4 5;");
      }
      Due.same("a plain text behind " + i, Due.tell(often, "worker 5 50 1 2;"), 1);
      for (int what = 0; what < 8; what++) Due.same("plain count " + what, often.count(what), counts[what]);
      Due.same("no wind from left", often.loud(0, 6), 47);
      Due.same("no wind from below", often.loud(0, 9), 47);
    }
  }

  private static void sizes() {
    QuietYards y = Due.told("hill 8 6;");
    Due.same("47", y.heard(47, 0), 0);
    Due.same("48", y.heard(48, 0), -1);
    Due.same("hill 0", Due.fault("hill 0 1;"), 5);
    Due.same("hill 9", Due.fault("hill 9 1;"), 5);
    Due.same("high 0", Due.fault("hill 1 0;"), 7);
    Due.same("high 7", Due.fault("hill 1 7;"), 7);
    Due.same("yards of the hill told", Due.fault("hill 2 2;worker 4 1 0 0;"), 16);
    Due.same("yards of no hill told", Due.fault("worker 12 1 0 0;"), 7);
    QuietYards big = Due.told("hill 8 6;");
    Due.same("the old size is no more", Due.tell(big, "worker 12 1 0 0;"), -17);
  }

  private static void blanksAndTokens() {
    QuietYards y = new QuietYards();
    Due.same("no blanks", Due.tell(y, "hill8 6;wall0 1 2;wind right2;wind up1;worker0 9 0 0;"), 5);
    Due.same("many blanks", Due.tell(y, "   hill   8    6  ;  wall 0  8   2 ; "), 2);
    Due.same("told", y.between(8, 0, 0), 2);
    Due.same("digits ahead of letters", Due.fault("wall 0 1 2wall"), 10);
    Due.same("no blank between words", Due.fault("windright 1;"), 0);
    Due.same("no blank between numbers", Due.fault("hill 43;"), 5);
    Due.same("tab", Due.fault("hill\t4 3;"), 4);
    Due.same("line feed", Due.fault("hill 4 3;\n"), 9);
    Due.same("no byte", Due.fault("hill 4 3;\0"), 9);
  }

  private static void faultsOfTokens() {
    Due.same("capital", Due.fault("Hill 4 3;"), 0);
    Due.same("capital within", Due.fault("hiLl 4 3;"), 0);
    Due.same("capital behind", Due.fault("hill 4 3;wallX"), 13);
    Due.same("unknown word", Due.fault("hill 4 3;hillx 1 2;"), 9);
    Due.same("part of a word", Due.fault("worke 0 1 0 0;"), 0);
    Due.same("a word and z", Due.fault("hillz 4 3;"), 0);
    Due.same("another first letter", Due.fault("till 4 3;"), 0);
    Due.same("another last letter", Due.fault("hilt 4 3;"), 0);
    Due.same("word of 398 letters", Due.fault(" " + "d".repeat(398) + ";"), 1);
    Due.same("minus", Due.fault("worker 0 -1 0 0;"), 9);
    Due.same("comma", Due.fault("worker 0,1 0 0;"), 8);
    Due.same("byte 200", Due.fault("worker 0 " + (char) 200), 9);
    Due.same("byte 255", Due.fault(" " + (char) 255), 1);
    Due.same("100", Due.fault("worker 0 100 0 0;"), 9);
    Due.same("00", Due.fault("worker 00 1 0 0;"), 7);
    Due.same("01", Due.fault("worker 0 01 0 0;"), 9);
    Due.same("4294967297", Due.fault("worker 0 4294967297 0 0;"), 9);
    Due.same("18446744073709551617", Due.fault("worker 0 18446744073709551617 0 0;"), 9);
    Due.same("brackets", Due.fault("[hill 4 3;"), 0);
    Due.same("a sign below a", Due.fault("`"), 0);
    Due.same("a sign above z", Due.fault("{"), 0);
    Due.same("a sign below 0", Due.fault("worker /"), 7);
    Due.same("a sign above 9", Due.fault("worker :"), 7);
  }

  private static void faultsOfOrder() {
    Due.same("semicolon first", Due.fault(";"), 0);
    Due.same("number first", Due.fault(" 5;"), 1);
    Due.same("two semicolons", Due.fault("hill 4 3;;"), 9);
    Due.same("no semicolon", Due.fault("hill 4 3 wall 0 1 1;"), 9);
    Due.same("a number more", Due.fault("hill 4 3 2;"), 9);
    Due.same("a number less", Due.fault("hill 4;"), 6);
    Due.same("hill behind another item", Due.fault("wind up 1; hill 4 3;"), 11);
    Due.same("hill twice", Due.fault("hill 4 3;hill 4 3;"), 9);
    Due.same("a way as an item", Due.fault("right 1;"), 0);
    Due.same("wind alone", Due.fault("wind 1;"), 5);
    Due.same("wind wall", Due.fault("wind wall 1;"), 5);
    Due.same("wind right right", Due.fault("wind right right 1;"), 11);
    Due.same("word for a number", Due.fault("worker 0 up 0 0;"), 9);
    Due.same("seventh worker", Due.fault("worker 0 1 0 0;".repeat(6) + " worker 0 1 0 0;"), 91);
    Due.same("ninth deed", Due.fault("deed 0 0 0 0 0;".repeat(8) + " deed"), 121);
    Due.same("seventh worker alone", Due.fault("worker 0 1 0 0;".repeat(6) + "worker"), 90);
    Due.same("worker numbers", Due.fault("worker 0 1 0;"), 12);
    Due.same("deed numbers", Due.fault("deed 0 1 2 3;"), 12);
    Due.same("deed numbers more", Due.fault("deed 0 1 2 3 4 5;"), 15);
    Due.same("the first of two", Due.fault("wall 0 2 4;worker 99 1 1 1;"), 7);
  }

  private static void faultsOfNumbers() {
    Due.same("no neighbour", Due.fault("wall 0 2 1;"), 7);
    Due.same("itself", Due.fault("felt 5 5 1;"), 7);
    Due.same("the next row", Due.fault("wall 3 4 1;"), 7);
    Due.same("the row before", Due.fault("wall 4 3 1;"), 7);
    Due.same("across", Due.fault("wall 0 5 1;"), 7);
    Due.same("no yard A", Due.fault("wall 12 11 1;"), 5);
    Due.same("no yard B", Due.fault("wall 11 12 1;"), 8);
    Due.same("four walls", Due.fault("wall 0 1 4;"), 9);
    Due.same("ten ells", Due.fault("felt 0 1 10;"), 9);
    Due.same("one yard has no neighbour", Due.fault("hill 1 1;wall 0 0 1;"), 16);
    Due.same("wind 3", Due.fault("wind right 3;"), 11);
    Due.same("wind left 3", Due.fault("wind left 3;"), 10);
    Due.same("wind down 3", Due.fault("wind down 3;"), 10);
    Due.same("wind up 3", Due.fault("wind up 3;"), 8);
    Due.same("noise 0", Due.fault("worker 0 0 0 0;"), 9);
    Due.same("kind 5", Due.fault("worker 0 1 5 0;"), 11);
    Due.same("worth 100", Due.fault("worker 0 1 4 100;"), 13);
    Due.same("deed yard", Due.fault("deed 12 0 0 0 0;"), 5);
    Due.same("hour 12", Due.fault("deed 0 12 12 0 0;"), 7);
    Due.same("last hour 12", Due.fault("deed 0 0 12 0 0;"), 9);
    Due.same("last below first", Due.fault("deed 0 3 2 0 0;"), 9);
    Due.same("limit 100", Due.fault("deed 0 0 0 100 0;"), 11);
    Due.same("price 100", Due.fault("deed 0 0 0 0 100;"), 13);
    Due.same("one wide", Due.tell(new QuietYards(), "hill 1 6;wall 0 1 1;felt 5 4 1;"), 3);
    Due.same("one wide, two down", Due.fault("hill 1 6;wall 0 2 1;"), 16);
    Due.same("one high", Due.tell(new QuietYards(), "hill 8 1;wall 6 7 1;"), 2);
    Due.same("one high, beyond", Due.fault("hill 8 1;wall 7 8 1;"), 16);
  }

  private static void faultsOfEnds() {
    Due.same("hill", Due.fault("hill"), 4);
    Due.same("hill and blanks", Due.fault("hill   "), 7);
    Due.same("hill 4", Due.fault("hill 4"), 6);
    Due.same("hill 4 3", Due.fault("hill 4 3 "), 9);
    Due.same("wind", Due.fault("wind"), 4);
    Due.same("wind up", Due.fault("wind up"), 7);
    Due.same("second item", Due.fault("hill 4 3; deed 1 2"), 18);
    Due.same("a full text", Due.fault("wall" + " ".repeat(396)), 400);
    Due.same("a full text's last byte", Due.fault(" ".repeat(399) + "x"), 399);
  }

  private static void faultsChangeNothing() {
    QuietYards y = Due.told("hill 3 3;wall 0 1 1;felt 1 2 3;wind down 1;worker 4 60 1 5;deed 8 0 5 9 9;deed 8 4 7 1 2;");
    y.fade(4);
    y.hear(3, 12);
    y.keep(1);
    y.rate(5, 0);
    String wrong = "hill 2 2;wall 0 1 3;wind up 2;worker 1 9 0 0;deed 0 0 0 0 0;?";
    Due.type(y, wrong);
    String before = Due.seen(y);
    Due.same("fault", y.hill(), -10 - (wrong.length() - 1));
    Due.same("nothing changes", Due.seen(y), before);
    Due.same("the text stays", y.count(5), wrong.length());
    Due.same("the image stays", y.back(1), 1);
    Due.same("the same fault again", y.hill(), -10 - (wrong.length() - 1));
    Due.same("and is cleared", y.clear(), wrong.length());
  }
}
