import java.util.Arrays;

/** Promises 1 to 4, sentence by sentence where one names an edge: a new object, type, clear, hill and its faults. */
final class EdgesOfTextTest {
  private static final String SIX_WORKERS = "worker 0 1 0 0;".repeat(6);
  private static final String EIGHT_DEEDS = "deed 0 0 0 0 0;".repeat(8);

  public static void main(String[] args) {
    newObjectIsFourByThree();
    newObjectHasNoWallsAndNoFelt();
    newObjectHasNoWorkers();
    newObjectHasNoDeeds();
    newObjectHasNothingElse();
    fadeIsThreeAtFirst();
    windIsNoneAtFirst();
    lowestBytesComeTheHighestFirst();
    bytesAboveTheLowestDoNotCome();
    oneToEightBytes();
    fourHundredBytesAtMost();
    fullLeavesRoomForLess();
    textHoldsAnyByte();
    clearAnswersWhatThereWas();
    clearChangesNothingElse();
    textIsEmptyBehindHill();
    emptyTextTellsAll();
    itemsAreCounted();
    blanksAnyNumberAnywhere();
    blanksNeededBetweenLettersAndBetweenNumbers();
    noOtherByteIsABlank();
    everyNumberTakesItsLeastAndItsMost();
    everyYardOfEverySize();
    neighboursAlone();
    lastHourNoLessThanTheFirst();
    hillIsTheFirstOfAll();
    whatIsToldLaterCounts();
    sixWorkersAtMost();
    eightDeedsAtMost();
    tokenThatCanNotStandThere();
    byteThatBeginsNoToken();
    wordThatIsNoneOfThese();
    numberAboveNinetyNine();
    numberWithZeroAhead();
    textEndsTooEarly();
    theFirstFaultIsTold();
    leastAndGreatestFault();
    faultChangesNothing();
    readAnew();
    nothingStaysOfEarlierTexts();
    nothingComesOfFaultyTexts();
    Due.close("EdgesOfTextTest");
  }

  /** What hill() answers to that text, typed into a new object. */
  private static int hillOf(String text) {
    return Due.tell(new QuietYards(), text);
  }

  // ---- promise 1

  /** Promise 1, "As told"; section 1, "WIDE times HIGH YARDS (.. 4 and 3 at first), number WIDE times y and x". */
  private static void newObjectIsFourByThree() {
    QuietYards y = new QuietYards();
    Due.same("wide at first", y.count(0), 4);
    Due.same("high at first", y.count(1), 3);
    Due.same("the first yard", y.heard(0, 0), 0);
    Due.same("the last yard", y.heard(11, 0), 0);
    Due.same("no yard behind it", y.heard(12, 0), Edge.BAD);
    Due.same("a row ends at 3", y.between(3, 4, 0), Edge.BAD);
    Due.same("7 is below 3", y.between(3, 7, 0), 0);
  }

  /** Promise 1, "As told"; section 1, "WALLS (.. 0 at first) and FELT (.. 0)". */
  private static void newObjectHasNoWallsAndNoFelt() {
    QuietYards y = new QuietYards();
    for (int what = 0; what < 2; what++) {
      for (int a = 0; a < 12; a++) {
        if (a % 4 < 3) Due.same("right of " + a, y.between(a, a + 1, what), 0);
        if (a < 8) Due.same("below " + a, y.between(a, a + 4, what), 0);
      }
      Due.same("all of " + what, y.count(6 + what), 0);
    }
  }

  /** Promise 1, "no WORKERS". */
  private static void newObjectHasNoWorkers() {
    QuietYards y = new QuietYards();
    Due.same("workers", y.count(2), 0);
    Due.same("worker 0", y.worker(0, 0), Edge.BAD);
    Due.same("loud", y.loud(0, 0), Edge.BAD);
    Due.same("rate", y.rate(0, 0), Edge.NO);
    Due.same("heard of all", y.heard(5, 63), 0);
    Due.same("plan", y.plan(0, 1, 0), 0);
    Due.same("day", y.day(0), 0);
    Due.same("the empty set is all sets", y.who(0), 1);
  }

  /** Promise 1, "no DEEDS". */
  private static void newObjectHasNoDeeds() {
    QuietYards y = new QuietYards();
    Due.same("deeds", y.count(3), 0);
    Due.same("deed 0", y.deed(0, 5), Edge.BAD);
    for (int hour = 0; hour < 12; hour++) Due.same("broken in " + hour, y.broken(hour, -1), 0);
    Due.same("a saw owes", y.saw(99, 0, 1), 0);
    Due.same("a saw stands in", y.saw(99, 0, 0), 0);
  }

  /** Promise 1, "As told": no HEARSAY, no IMAGES, an empty TEXT, and THE TRACE "0 at first". */
  private static void newObjectHasNothingElse() {
    QuietYards y = new QuietYards();
    Due.same("hearsay", y.count(4), 0);
    Due.same("hearsay to forget", y.forget(), 0);
    Due.same("bytes", y.count(5), 0);
    Due.same("bytes to clear", y.clear(), 0);
    Due.same("trace", y.trace(), 0);
    Due.same("image 0", y.back(0), Edge.STATE);
    Due.same("image 1", y.back(1), Edge.STATE);
  }

  /** Promise 1; section 1, "FADE (1 .. 9; 3 at first)". */
  private static void fadeIsThreeAtFirst() {
    Due.same("fade", new QuietYards().fade(9), 3);
    Due.same("3 to a neighbour", Due.told("worker 0 10 0 0;").loud(0, 1), 7);
  }

  /** Promise 1; section 1, "WIND: .. 0 at first". */
  private static void windIsNoneAtFirst() {
    QuietYards y = Due.told("worker 5 10 0 0;");
    for (int side : new int[] {1, 4, 6, 9}) Due.same("wind to " + side, y.loud(0, side), 7);
  }

  // ---- promise 2

  /** Promise 2, "the highest of them first": n - 1 blanks and a comma, whose place is the fault. */
  private static void lowestBytesComeTheHighestFirst() {
    for (int n = 1; n <= 8; n++) {
      for (int place = 0; place < n; place++) {
        QuietYards y = new QuietYards();
        long v = 0;
        for (int i = 0; i < n; i++) v = v << 8 | (i == place ? ',' : ' ');
        Due.same("type " + n, y.type(v, n), n);
        Due.same("the comma among " + n, y.hill(), -10 - place);
      }
    }
  }

  /** Promise 2, "The lowest n bytes of v": what v has above them does not come. */
  private static void bytesAboveTheLowestDoNotCome() {
    for (int n = 1; n < 8; n++) {
      QuietYards y = new QuietYards();
      long blanks = 0x2020202020202020L;
      long v = blanks & (1L << 8 * n) - 1 | -1L << 8 * n;
      Due.same("bytes 255 above " + n, y.type(v, n), n);
      Due.same("are not read", y.hill(), 0);
    }
  }

  /** Promise 2, "n (1 .. 8)", "BAD". */
  private static void oneToEightBytes() {
    QuietYards y = new QuietYards();
    Due.same("one", y.type(Long.MIN_VALUE, 1), 1);
    Due.same("eight", y.type(Long.MIN_VALUE, 8), 9);
    for (int n : Edge.outside(1, 8)) Edge.refused("type n " + n, Edge.BAD, made -> made.type(32, n));
  }

  /** Promise 2, "FULL"; section 1, "a text (400 bytes at most)". */
  private static void fourHundredBytesAtMost() {
    for (int n = 1; n <= 8; n++) {
      QuietYards y = new QuietYards();
      Due.type(y, " ".repeat(400 - n));
      Due.same("400 with " + n, y.type(0x2020202020202020L, n), 400);
      Due.same("400 are counted", y.count(5), 400);
      int more = n;
      Edge.refused(Edge.Made.MOST, "full with " + n, Edge.FULL, made -> made.type(',', more));
      Due.same("400 blanks are read", y.hill(), 0);
    }
  }

  /** Promise 2, "FULL": refused as a whole, nothing of it comes; less may have room yet. */
  private static void fullLeavesRoomForLess() {
    for (int n = 2; n <= 8; n++) {
      QuietYards y = new QuietYards();
      Due.type(y, " ".repeat(401 - n));
      Due.same("401 with " + n, y.type(',', n), Edge.FULL);
      Due.same("nothing of it came", y.count(5), 401 - n);
      Due.same("one less has room", y.type(0x2020202020202020L, n - 1), 400);
      Due.same("and no comma came", y.hill(), 0);
    }
  }

  /** Promise 2, bytes 0 and 255 among "the lowest bytes": no sign is left out, none is cut. */
  private static void textHoldsAnyByte() {
    for (int value = 0; value < 256; value++) {
      QuietYards y = new QuietYards();
      Due.same("byte " + value, y.type(value - 256L, 1), 1);
      Due.same("hill of byte " + value, y.hill(), value == ' ' ? 0 : -10);
      Due.same("stays", y.count(5), value == ' ' ? 0 : 1);
    }
  }

  // ---- promise 3

  /** Promise 3, "THE TEXT is empty: how many bytes it had": none, one, as many as may be. */
  private static void clearAnswersWhatThereWas() {
    for (int bytes : new int[] {0, 1, 8, 399, 400}) {
      QuietYards y = new QuietYards();
      Due.type(y, ",".repeat(bytes));
      Due.same("clear of " + bytes, y.clear(), bytes);
      Due.same("clear again", y.clear(), 0);
      Due.same("nothing is left", y.hill(), 0);
      Due.same("room for all again", Due.type(y, " ".repeat(400)), 400);
    }
  }

  /** Promise 3: THE TEXT alone is empty then. */
  private static void clearChangesNothingElse() {
    for (Edge.Made made : Edge.Made.values()) {
      Edge.leaves(made, "clear, and typed again", made.text.length(), y -> {
        int had = y.clear();
        Due.same("no bytes of " + made, y.count(5), 0);
        Due.type(y, made.text);
        return had;
      });
    }
  }

  // ---- promise 4

  /** Promise 4, "THE TEXT .. is empty then". */
  private static void textIsEmptyBehindHill() {
    QuietYards y = new QuietYards();
    Due.type(y, "hill 2 2;" + " ".repeat(391));
    Due.same("one item", y.hill(), 1);
    Due.same("no bytes", y.count(5), 0);
    Due.same("nothing to clear", y.clear(), 0);
    Due.same("room again", Due.type(y, " ".repeat(400)), 400);
  }

  /** Promise 4, "THE TEXT tells all"; section 1, "ITEMS (none, too)": an empty text, or blanks alone. */
  private static void emptyTextTellsAll() {
    for (String text : new String[] {"", " ", " ".repeat(400)}) {
      for (Edge.Made made : Edge.Made.values()) {
        QuietYards y = made.make();
        long trace = y.trace();
        y.clear();
        Due.type(y, text);
        Due.same("no items", y.hill(), 0);
        int[] counts = {4, 3, 0, 0, 0, 0, 0, 0};
        for (int what = 0; what < 8; what++) Due.same("count " + what + " of " + made, y.count(what), counts[what]);
        Due.same("trace of " + made, y.trace(), trace);
      }
    }
  }

  /** Promise 4, "how many ITEMS": one, and as many as 400 bytes can tell. */
  private static void itemsAreCounted() {
    Due.same("one", hillOf("wind up 1;"), 1);
    Due.same("hill is one", hillOf("hill 1 1;"), 1);
    Due.same("44 of nine bytes, and four blanks", hillOf("wind up1;".repeat(44) + "    "), 44);
    Due.same("each told again counts", hillOf("wall 0 1 1;".repeat(36)), 36);
  }

  /** Section 1, "blanks (32), any number, ahead of, between, behind TOKENS": none, one, as many as there is room for. */
  private static void blanksAnyNumberAnywhere() {
    String[] tokens = {"hill", "2", "3", ";", "wall", "0", "2", "1", ";", "wind", "up", "2", ";"};
    int length = String.join("", tokens).length();
    for (int gap = 0; gap <= tokens.length; gap++) {
      for (int blanks : new int[] {1, 2, 400 - length - (tokens.length - 1)}) {
        StringBuilder text = new StringBuilder();
        for (int i = 0; i <= tokens.length; i++) {
          if (i == gap) text.append(" ".repeat(blanks));
          if (i < tokens.length) text.append(tokens[i]);
          if (i < tokens.length - 1) text.append(' ');
        }
        Due.same("blanks " + blanks + " at " + gap, hillOf(text.substring(0, Math.min(400, text.length()))), 3);
      }
    }
  }

  /** Section 1, "needed only between two rows of letters, two NUMBERS". */
  private static void blanksNeededBetweenLettersAndBetweenNumbers() {
    Due.same("none where none is needed", hillOf("hill8 6;wall0 1 1;felt0 8 1;wind up2;worker1 2 3 4;deed1 2 3 4 5;"), 6);
    Due.same("letters behind a number", Due.fault("wall0 1 1felt0 8 1;"), 9);
    Due.same("two rows of letters are one", Due.fault("windup 1;"), 0);
    Due.same("two numbers are one", Due.fault("wall 01 1;"), 5);
    Due.same("two numbers are one, beyond", Due.fault("hill 1 2;wall 0 11;"), 16);
    Due.same("two numbers are one, and one is missing", Due.fault("worker 1 23 4;"), 13);
  }

  /** Section 1, "blanks (32)": no other byte is one. */
  private static void noOtherByteIsABlank() {
    for (int value = 0; value < 256; value++) {
      boolean known = value == ' ' || value >= '0' && value <= '9' || value >= 'a' && value <= 'z' || value == ';';
      if (!known) Due.same("byte " + value + " between tokens", Due.fault("hill " + (char) value + "2 3;"), 5);
    }
  }

  /** A number's place in an item: what stands ahead of it and behind it, and what it may be. */
  private static void number(String ahead, String behind, int least, int most) {
    int items = (int) (ahead + behind).chars().filter(c -> c == ';').count();
    for (int value = 0; value <= 101; value++) {
      boolean may = value >= least && value <= most;
      Due.same("hill of " + ahead + value + behind, hillOf(ahead + value + behind), may ? items : -10 - ahead.length());
    }
    Due.same(ahead + " one below 0", Due.fault(ahead + "-1" + behind), ahead.length());
  }

  /** Promise 4, FAULT "a NUMBER beyond what it may be"; section 1, what each number may be. */
  private static void everyNumberTakesItsLeastAndItsMost() {
    number("hill ", " 1;", 1, 8);
    number("hill 1 ", ";", 1, 6);
    number("wall 0 1 ", ";", 0, 3);
    number("felt 0 4 ", ";", 0, 9);
    number("wind right ", ";", 0, 2);
    number("wind left ", ";", 0, 2);
    number("wind down ", ";", 0, 2);
    number("wind up ", ";", 0, 2);
    number("worker ", " 1 0 0;", 0, 11);
    number("worker 11 ", " 0 0;", 1, 99);
    number("worker 11 99 ", " 0;", 0, 4);
    number("worker 11 99 4 ", ";", 0, 99);
    number("deed ", " 0 0 0 0;", 0, 11);
    number("deed 11 ", " 11 0 0;", 0, 11);
    number("deed 11 0 ", " 0 0;", 0, 11);
    number("deed 11 11 11 ", " 0;", 0, 99);
    number("deed 11 11 11 99 ", ";", 0, 99);
  }

  /** Section 1, "WIDE times HIGH YARDS (1 .. 8, 1 .. 6)": in each size the last yard is there, the next is not. */
  private static void everyYardOfEverySize() {
    for (int wide = 1; wide <= 8; wide++) {
      for (int high = 1; high <= 6; high++) {
        String size = "hill " + wide + " " + high + ";";
        int yards = wide * high;
        QuietYards y = Due.told(size + "worker " + (yards - 1) + " 7 0 0;deed " + (yards - 1) + " 0 0 0 0;");
        Due.same(size + " worker", y.worker(0, 0), yards - 1);
        Due.same(size + " deed", y.deed(0, 0), yards - 1);
        Due.same(size + " last yard", y.loud(0, yards - 1), 7);
        Due.same(size + " no further yard", y.loud(0, yards), Edge.BAD);
        Due.same(size + " worker beyond", Due.fault(size + "worker " + yards + " 7 0 0;"), 16);
        Due.same(size + " deed beyond", Due.fault(size + "deed " + yards + " 0 0 0 0;"), 14);
        Due.same(size + " wall from beyond", Due.fault(size + "wall " + yards + " 0 1;"), 14);
        Due.same(size + " felt from beyond", Due.fault(size + "felt " + yards + " 0 1;"), 14);
      }
    }
  }

  /** Section 1, "wall A B N, felt A B N (neighbours)"; FAULT "a B that is no neighbour of A": B's place, in all sizes. */
  private static void neighboursAlone() {
    int[][] sizes = {{1, 1}, {2, 1}, {1, 2}, {8, 1}, {1, 6}, {2, 2}, {3, 2}, {4, 3}};
    for (int[] size : sizes) {
      int wide = size[0];
      int yards = wide * size[1];
      String hill = "hill " + wide + " " + size[1] + ";";
      for (int a = 0; a < yards; a++) {
        for (int b = 0; b <= yards; b++) {
          int across = Math.abs(a % wide - b % wide);
          int down = Math.abs(a / wide - b / wide);
          boolean side = b < yards && across + down == 1;
          String ahead = hill + ((a + b) % 2 == 0 ? "wall " : "felt ") + a + " ";
          Due.same("hill of " + ahead + b, hillOf(ahead + b + " 1;"), side ? 2 : -10 - ahead.length());
        }
      }
    }
  }

  /** Section 1, "deed P A B L C (B no less than A)"; HOURS a .. b (0 .. 11). */
  private static void lastHourNoLessThanTheFirst() {
    for (int a = 0; a < 12; a++) {
      for (int b = 0; b <= 12; b++) {
        String ahead = "deed 0 " + a + " ";
        Due.same(ahead + b, hillOf(ahead + b + " 0 0;"), b < a || b > 11 ? -10 - ahead.length() : 1);
      }
    }
  }

  /** Section 1, "hill W H (the first of all, if it is told)"; FAULT "hill behind another ITEM": that word's place. */
  private static void hillIsTheFirstOfAll() {
    Due.same("not told", hillOf("wind up 0;"), 1);
    Due.same("the first", hillOf("hill 4 3;wind up 0;"), 2);
    String[] others = {"hill 4 3;", "wall 0 1 0;", "felt 0 1 0;", "wind up 0;", "worker 0 1 0 0;", "deed 0 0 0 0 0;"};
    for (String other : others) {
      Due.same("behind " + other, Due.fault(other + " hill 4 3;"), other.length() + 1);
      Due.same("behind two: " + other, Due.fault("wind left 0;" + other + "hill 4 3;"),
          other.equals("hill 4 3;") ? 12 : 12 + other.length());
    }
  }

  /** Section 1, "told again, what is later counts"; "of right and left, of down and up the later counts". */
  private static void whatIsToldLaterCounts() {
    QuietYards y = Due.told("wall 0 1 3;wall 1 0 0;felt 4 0 9;felt 0 4 1;felt 1 2 0;felt 2 1 9;");
    Due.same("walls", y.between(0, 1, 0), 0);
    Due.same("all walls", y.count(6), 0);
    Due.same("felt", y.between(0, 4, 1), 1);
    Due.same("all felt", y.count(7), 10);
    String[] winds = {"right 2;wind left 0", "left 2;wind right 0", "up 2;wind down 0", "down 2;wind up 0"};
    for (String wind : winds) {
      QuietYards still = Due.told("worker 5 10 0 0;wind " + wind + ";");
      for (int side : new int[] {1, 4, 6, 9}) Due.same(wind + " at " + side, still.loud(0, side), 7);
    }
    QuietYards both = Due.told("worker 5 10 0 0;wind right 2;wind up 2;wind down 1;wind left 1;");
    int[] sides = {6, 4, 9, 1};
    int[] louds = {6, 8, 8, 6};
    for (int i = 0; i < 4; i++) Due.same("later of four, at " + sides[i], both.loud(0, sides[i]), louds[i]);
  }

  /** Section 1, "WORKERS 0 .. (6 at most)"; FAULT "a seventh worker": that word's place. */
  private static void sixWorkersAtMost() {
    for (int n = 0; n <= 6; n++) {
      QuietYards y = Due.told("worker 0 1 0 0;".repeat(n));
      Due.same(n + " workers", y.count(2), n);
      Due.same("all sets of " + n, y.who(0), 1 << n);
      for (int w = 0; w < 8; w++) Due.same("worker " + w + " of " + n, y.worker(w, 1), w < n ? 1 : Edge.BAD);
    }
    Due.same("the seventh", Due.fault(SIX_WORKERS + "worker 0 1 0 0;"), SIX_WORKERS.length());
    Due.same("deeds between", Due.fault(SIX_WORKERS + "deed 0 0 0 0 0; worker"), SIX_WORKERS.length() + 16);
    Due.same("an eighth deed behind six", hillOf(SIX_WORKERS + EIGHT_DEEDS), 14);
  }

  /** Section 1, "DEEDS 0 .. (8 at most)"; FAULT "a ninth deed": that word's place. */
  private static void eightDeedsAtMost() {
    for (int n = 0; n <= 8; n++) {
      QuietYards y = Due.told("deed 0 0 0 0 7;".repeat(n));
      Due.same(n + " deeds", y.count(3), n);
      for (int d = 0; d < 10; d++) Due.same("deed " + d + " of " + n, y.deed(d, 4), d < n ? 7 : Edge.BAD);
    }
    Due.same("the ninth", Due.fault(EIGHT_DEEDS + "deed 0 0 0 0 0;"), EIGHT_DEEDS.length());
    Due.same("workers between", Due.fault(EIGHT_DEEDS + "worker 0 1 0 0; deed"), EIGHT_DEEDS.length() + 16);
  }

  /** Promise 4, FAULT "the first TOKEN that can't stand there": at each place of each item, each kind of token. */
  private static void tokenThatCanNotStandThere() {
    String[][] items = {{"hill", "4", "3", ";"}, {"wall", "0", "1", "2", ";"}, {"felt", "4", "0", "2", ";"},
        {"wind", "right", "1", ";"}, {"wind", "left", "1", ";"}, {"wind", "down", "1", ";"}, {"wind", "up", "1", ";"},
        {"worker", "1", "2", "3", "4", ";"}, {"deed", "1", "2", "3", "4", "5", ";"}};
    String[] words = {"hill", "wall", "felt", "wind", "right", "left", "down", "up", "worker", "deed"};
    for (String[] item : items) {
      for (int place = 0; place < item.length; place++) {
        String ahead = String.join(" ", Arrays.copyOf(item, place)) + (place == 0 ? "" : " ");
        for (String word : words) {
          boolean begins = place == 0 && !Arrays.asList(words).subList(4, 8).contains(word);
          boolean way = place == 1 && item[0].equals("wind") && Arrays.asList(words).subList(4, 8).contains(word);
          String text = ahead + word;
          Due.same("fault of " + text, Due.fault(text), begins || way ? text.length() : ahead.length());
        }
        for (String none : new String[] {",", "wynd", "100", "00", "W", "-1"}) {
          Due.same("fault of " + ahead + none, Due.fault(ahead + none + " 1;"), ahead.length());
        }
        Due.same("fault of " + ahead + "1 ", Due.fault(ahead + "1 "), ahead.length() + (takesOne(item, place) ? 2 : 0));
        boolean ends = item[place].equals(";");
        Due.same("hill of " + ahead + ";", hillOf(ahead + ";"), ends ? 1 : -10 - ahead.length());
        Due.same("fault of " + ahead + ";;", Due.fault(ahead + ";;"), ahead.length() + (ends ? 1 : 0));
        if (place > 0) Due.same("fault of " + ahead, Due.fault(ahead), ahead.length());
      }
    }
  }

  private static boolean takesOne(String[] item, int place) {
    boolean number = Character.isDigit(item[place].charAt(0));
    boolean noNeighbour = item[0].equals("felt") && place == 2;
    boolean belowTheFirst = item[0].equals("deed") && place == 3;
    return number && !noNeighbour && !belowTheFirst;
  }

  /** Promise 4, FAULT "of a byte that begins none": its own place, wherever it stands. */
  private static void byteThatBeginsNoToken() {
    String text = "hill 4 3;wind up 2;deed 1 2 3 4 5;";
    int[] starts = {0, 5, 7, 8, 9, 14, 17, 18, 19, 24, 26, 28, 30, 32, 33};
    for (int value : new int[] {0, 9, 10, 13, 31, 33, '/', ':', '<', 'A', 'Z', '`', '{', 127, 128, 160, 255}) {
      for (int start : starts) {
        String wrong = text.substring(0, start) + (char) value + text.substring(start);
        Due.same("byte " + value + " at " + start, Due.fault(wrong), start);
      }
      Due.same("byte " + value + " last", Due.fault(text + (char) value), text.length());
      Due.same("byte " + value + " in a word", Due.fault("de" + (char) value + "ed 1 2 3 4 5;"), 0);
      Due.same("byte " + value + " in a number", Due.fault("deed 1 2 11" + (char) value + " 4 5;"), 11);
    }
  }

  /** Promise 4, FAULT "a word that is none of these": one letter less, more, or another. */
  private static void wordThatIsNoneOfThese() {
    String[] words = {"hill", "wall", "felt", "wind", "worker", "deed"};
    for (String word : words) {
      Due.same("less than " + word, Due.fault(" " + word.substring(0, word.length() - 1) + " 1;"), 1);
      Due.same("its end alone: " + word, Due.fault(" " + word.substring(1) + " 1;"), 1);
      for (char more : new char[] {'a', 's', 'z'}) Due.same("more than " + word, Due.fault(" " + word + more + " 1;"), 1);
      Due.same("twice " + word, Due.fault(" " + word + word + " 1;"), 1);
      for (int i = 0; i < word.length(); i++) {
        String other = word.substring(0, i) + (char) (word.charAt(i) == 'z' ? 'y' : word.charAt(i) + 1) + word.substring(i + 1);
        Due.same("other " + other, Due.fault(" " + other + " 1;"), 1);
        String great = word.substring(0, i) + (char) (word.charAt(i) - 32) + word.substring(i + 1);
        Due.same("great letter " + great, Due.fault(" " + great + " 1;"), 1);
      }
    }
    String[] ways = {"right", "left", "down", "up"};
    for (String way : ways) {
      Due.same("less than " + way, Due.fault("wind " + way.substring(0, way.length() - 1) + " 1;"), 5);
      for (char more : new char[] {'a', 's', 'z'}) Due.same("more than " + way, Due.fault("wind " + way + more + " 1;"), 5);
      for (int i = 0; i < way.length(); i++) {
        String other = way.substring(0, i) + (char) (way.charAt(i) - 1) + way.substring(i + 1);
        Due.same("other " + other, Due.fault("wind " + other + " 1;"), 5);
      }
    }
    Due.same("one letter", Due.fault("a"), 0);
    Due.same("400 letters", Due.fault("w".repeat(400)), 0);
  }

  /** Promise 4, FAULT "a NUMBER above 99": its place; however long it is, it does not wrap around. */
  private static void numberAboveNinetyNine() {
    Due.same("99 stands", hillOf("worker 0 99 0 99;"), 1);
    String[] wraps = {"100", "101", "256", "257", "65537", "2147483647", "2147483648", "4294967296", "4294967297",
        "990", "999", "9900", "1000", "9223372036854775807", "18446744073709551616", "18446744073709551617", "1" + "0".repeat(390)};
    for (String wrap : wraps) {
      String text = "worker 0 " + wrap + " 0 0;";
      Due.same("noise " + wrap, Due.fault(text.substring(0, Math.min(400, text.length()))), 9);
    }
    Due.same("where no number stands", Due.fault("hill 4 3 100;"), 9);
    Due.same("where an item begins", Due.fault("hill 4 3;100"), 9);
  }

  /** Promise 4, FAULT "a NUMBER .. with a 0 ahead of others": its place; 0 alone stands. */
  private static void numberWithZeroAhead() {
    Due.same("0 alone", hillOf("worker 0 1 0 0;"), 1);
    for (String zero : new String[] {"00", "01", "09", "000", "0099", "010", "0".repeat(300)}) {
      Due.same("worth " + zero, Due.fault("worker 0 1 0 " + zero + ";"), 13);
      Due.same("wind " + zero, Due.fault("wind up " + zero + ";"), 8);
    }
    Due.same("a 0 behind", hillOf("worker 10 10 0 90;"), 1);
  }

  /** Promise 4, FAULT "the text's length, if it ends too early": behind each token but the last, with and without blanks. */
  private static void textEndsTooEarly() {
    String[] items = {"hill 4 3 ;", "wall 0 1 2 ;", "felt 4 0 9 ;", "wind right 1 ;", "wind left 1 ;", "wind down 2 ;",
        "wind up 0 ;", "worker 1 2 3 4 ;", "deed 1 2 3 4 5 ;"};
    for (String item : items) {
      for (int end = item.indexOf(' '); end >= 0; end = item.indexOf(' ', end + 1)) {
        for (int blanks : new int[] {0, 1, 2, 400 - end}) {
          String text = item.substring(0, end) + " ".repeat(blanks);
          Due.same("end of '" + text + "'", Due.fault(text), end + blanks);
          String second = "wind up 1;" + text;
          if (second.length() <= 400 && !item.startsWith("hill")) {
            Due.same("end of '" + second + "'", Due.fault(second), second.length());
          }
        }
      }
    }
    Due.same("no end between items", hillOf("wind up 1; wind up 1; "), 2);
  }

  /** Promise 4, FAULT "of the first TOKEN": what is wrong behind it does not count. */
  private static void theFirstFaultIsTold() {
    Due.same("number, then byte", Due.fault("worker 0 0 9 ,"), 9);
    Due.same("byte, then number", Due.fault("worker , 0 9"), 7);
    Due.same("word, then end", Due.fault("hillo"), 0);
    Due.same("B, then N", Due.fault("wall 0 5 9;"), 7);
    Due.same("A, then B", Due.fault("wall 12 13 9;"), 5);
    Due.same("W, then H", Due.fault("hill 9 9;"), 5);
    Due.same("two items", Due.fault("wind up 3;wind up 4;"), 8);
    Due.same("seventh worker, then its yard", Due.fault(SIX_WORKERS + "worker 99 1 0 0;"), SIX_WORKERS.length());
    Due.same("missing ;, then an unknown word", Due.fault("wind up 1 wynd"), 10);
  }

  /** Promise 4, "-10 less FAULT": from -10 (the first byte) to -410 (the length of 400 bytes). */
  private static void leastAndGreatestFault() {
    Due.same("0", hillOf(","), -10);
    Due.same("1", hillOf(" ,"), -11);
    Due.same("399", hillOf(" ".repeat(399) + ","), -409);
    Due.same("400", hillOf(" ".repeat(396) + "wind"), -410);
  }

  /** Promise 4, "nothing changes (THE TEXT stays, too)". */
  private static void faultChangesNothing() {
    String[] wrongs = {"hill 8 6;wall 0 1 3;felt 0 1 9;wind left 2;wind up 2;worker 5 9 1 9;deed 5 0 11 1 9;?",
        "hill 8 6;worker 0 1 0 0;worker", "wind up 1;hill 2 2;", SIX_WORKERS + "worker 0 1 0 0;",
        EIGHT_DEEDS + "deed 0 0 0 0 0;", "hill 1 1", ","};
    for (Edge.Made made : Edge.Made.values()) {
      for (String wrong : wrongs) {
        QuietYards read = made.make();
        read.clear();
        Due.type(read, wrong);
        Due.holds("a fault", read.hill() <= -10);
        QuietYards never = made.make();
        never.clear();
        Due.type(never, wrong);
        Due.same("behind the fault of " + wrong, Edge.all(read), Edge.all(never));
      }
    }
    QuietYards y = new QuietYards();
    Due.same("a fault", Due.tell(y, "hill 2"), -16);
    Due.same("goes on where the text was", Due.type(y, " 1;"), 9);
    Due.same("and is read as one", y.hill(), 1);
    Due.same("high", y.count(1), 1);
  }

  /** Section 4, "Read anew: no HEARSAY, IMAGES are gone; FADE stays; THE TRACE goes on", with all and with nothing told. */
  private static void readAnew() {
    for (String text : new String[] {"", "hill 3 2;worker 0 61 3 8;"}) {
      for (Edge.Made made : Edge.Made.values()) {
        QuietYards y = made.make();
        int fade = y.fade(1);
        y.fade(fade);
        long trace = y.trace();
        Due.holds("read", Due.tell(y, text) >= 0);
        Due.same("hearsay of " + made, y.count(4), 0);
        Due.same("nothing to forget", y.forget(), 0);
        Due.same("image 0 of " + made, y.back(0), Edge.STATE);
        Due.same("image 1 of " + made, y.back(1), Edge.STATE);
        Due.same("trace of " + made, y.trace(), trace);
        Due.same("fade of " + made, y.fade(9), fade);
      }
    }
  }

  private static final String MUCH = "hill 5 2;wall 0 1 3;wall 5 6 1;felt 5 6 9;felt 0 5 4;wind left 2;wind up 2;"
      + "worker 3 9 1 5;worker 4 8 2 6;deed 5 0 5 4 5;deed 5 2 8 9 9;";

  /** Promise 4, "THE TEXT tells all": as often as it is read, what one text tells is none of the next. */
  private static void nothingStaysOfEarlierTexts() {
    String[] texts = {"", "worker 5 50 1 2;deed 5 1 9 40 6;deed 6 0 11 20 7;", "hill 2 2;worker 3 50 1 2;deed 1 3 4 5 6;"};
    for (String text : texts) {
      String due = Edge.all(Due.told(text));
      for (int before = 1; before <= 4; before++) {
        QuietYards y = new QuietYards();
        for (int i = 0; i < before; i++) Due.same("much", Due.tell(y, MUCH), 11);
        Due.holds("read", Due.tell(y, text) >= 0);
        Due.same("behind " + before + ": " + text, Edge.all(y), due);
      }
      QuietYards often = new QuietYards();
      for (int i = 0; i < 4; i++) {
        Due.tell(often, MUCH);
        Due.tell(often, text);
      }
      Due.same("in turns: " + text, Edge.all(often), due);
    }
  }

  /** Promise 4, "-10 less FAULT: nothing changes": what a faulty text told ahead of its fault is none of the next text. */
  private static void nothingComesOfFaultyTexts() {
    String[] texts = {"", "worker 5 50 1 2;deed 5 1 9 40 6;deed 6 0 11 20 7;"};
    for (String text : texts) {
      String due = Edge.all(Due.told(text));
      for (int before = 1; before <= 4; before++) {
        QuietYards y = new QuietYards();
        for (int i = 0; i < before; i++) Due.same("much, and a fault", Due.tell(y, MUCH + ";"), -10 - MUCH.length());
        Due.holds("read", Due.tell(y, text) >= 0);
        Due.same("behind " + before + " faults: " + text, Edge.all(y), due);
      }
    }
  }
}
