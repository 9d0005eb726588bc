import java.util.Arrays;

/** A hill of yards where quiet is owned by the hour: how loud what is where, and who may work at once. */
public final class QuietYards {
  public static final int BAD = -1, STATE = -2, FULL = -3, NONE = -9;
  public static final int NO = -1000000;

  private static final int MOST_BYTES = 400;
  private static final int MOST_WIDE = 8, MOST_HIGH = 6, MOST_YARDS = 48, MOST_BORDERS = 96;
  private static final int MOST_WALLS = 3, MOST_FELT = 9, MOST_WIND = 2, MOST_FADE = 9;
  private static final int MOST_WORKERS = 6, WORKER_SETS = 64, MOST_DEEDS = 8, DEED_SETS = 256;
  private static final int HOURS = 12, MOST = 99, MOST_KIND = 4;
  private static final int MOST_HEARSAY = 6, MOST_HEARD = 999, IMAGES = 2;
  private static final int FAULT = -10;

  // places in a worker's row and in a deed's row, as worker() and deed() number them
  private static final int YARD = 0, NOISE = 1, KIND = 2, WORTH = 3, OF_WORKER = 4;
  private static final int FIRST = 1, LAST = 2, LIMIT = 3, PRICE = 4, HOLDS = 5, OF_DEED = 6;

  private final Reader reader = new Reader();
  private final Sound sound = new Sound();
  private final Plans plans = new Plans();
  private final Hearsay hearsay = new Hearsay();
  private final Image[] images = new Image[IMAGES];
  private Hill hill = new Hill();
  private Hill draft = new Hill();
  private long trace;

  public QuietYards() {
    for (int i = 0; i < IMAGES; i++) images[i] = new Image();
  }

  // ---- the hill

  public int type(long v, int n) {
    if (!within(n, 1, 8)) return BAD;
    return reader.text.append(v, n);
  }

  public int clear() {
    return reader.text.empty();
  }

  public int hill() {
    int items = reader.read(draft);
    if (items < 0) return items;
    draft.settle();
    Hill old = hill;
    hill = draft;
    draft = old;
    reader.text.empty();
    hearsay.empty();
    for (int i = 0; i < IMAGES; i++) images[i].kept = false;
    listen();
    return items;
  }

  public int between(int a, int b, int what) {
    int border = hill.borderOf(a, b);
    if (border < 0 || !isBit(what)) return BAD;
    return hill.ground.rowOf(what)[border];
  }

  public int build(int a, int b, int what, int n) {
    int border = hill.borderOf(a, b);
    if (border < 0 || !isBit(what) || !within(n, 0, mostOf(what))) return BAD;
    int[] row = hill.ground.rowOf(what);
    int was = row[border];
    row[border] = n;
    listen();
    return was;
  }

  public int wind(int right, int down) {
    if (!within(right, -MOST_WIND, MOST_WIND) || !within(down, -MOST_WIND, MOST_WIND)) return BAD;
    hill.ground.right = right;
    hill.ground.down = down;
    listen();
    return 1;
  }

  public int fade(int v) {
    if (!within(v, 1, MOST_FADE)) return BAD;
    int was = sound.fade;
    sound.fade = v;
    listen();
    return was;
  }

  public int worker(int w, int what) {
    if (!hill.isWorker(w) || !within(what, 0, OF_WORKER - 1)) return BAD;
    return hill.workerRows[w][what];
  }

  public int deed(int d, int what) {
    if (!hill.isDeed(d) || !within(what, 0, OF_DEED - 1)) return BAD;
    return hill.deedRows[d][what];
  }

  // ---- how loud

  public int loud(int w, int yard) {
    if (!hill.isWorker(w) || !hill.isYard(yard)) return BAD;
    return sound.louds[w][yard];
  }

  public int heard(int yard, int set) {
    if (!hill.isYard(yard)) return BAD;
    return sound.heardIn(hill, yard, set);
  }

  public int broken(int hour, int set) {
    if (!isHour(hour)) return BAD;
    return plans.breaks[set & hill.allWorkers()] & hill.holding[hour];
  }

  // ---- plans

  public int plan(int hour, int paid, int what) {
    if (!isHour(hour) || !isBit(paid) || !isBit(what)) return BAD;
    plans.choose(hill, hour, paid);
    return what == 0 ? plans.chosen : plans.brings;
  }

  public int day(int paid) {
    if (!isBit(paid)) return BAD;
    return plans.wholeDay(hill, paid);
  }

  public int best(int kind, int paid, int what) {
    if (!isBit(kind) || !isBit(paid) || !isBit(what)) return BAD;
    int[] row = hill.ground.rowOf(kind);
    int brings = plans.wholeDay(hill, paid);
    int pair = NONE;
    for (int border = 0; border < MOST_BORDERS; border++) {
      int beyond = hill.beyond(border);
      if (beyond < 0 || row[border] >= mostOf(kind)) continue;
      row[border]++;
      listen();
      int more = plans.wholeDay(hill, paid);
      row[border]--;
      if (more > brings) {
        brings = more;
        pair = 100 * (border / 2) + beyond;
      }
    }
    listen();
    return pair == NONE || what == 0 ? pair : brings;
  }

  public int saw(int n, int hour, int what) {
    if (!within(n, 1, MOST) || !isHour(hour) || !isBit(what)) return BAD;
    int least = owedFrom(0, n, hour);
    int where = 0;
    for (int yard = 1; yard < hill.yards(); yard++) {
      int owed = owedFrom(yard, n, hour);
      if (owed < least) {
        least = owed;
        where = yard;
      }
    }
    return what == 0 ? where : least;
  }

  // ---- hearsay, prices

  public int hear(int yard, int loud) {
    if (!hill.isYard(yard) || !within(loud, 0, MOST_HEARD)) return BAD;
    return hearsay.add(yard, loud);
  }

  public int forget() {
    return hearsay.empty();
  }

  public int who(int what) {
    if (!within(what, 0, 2)) return BAD;
    int sets = 0;
    int inAll = hill.allWorkers();
    int inSome = 0;
    for (int set = 0; set <= hill.allWorkers(); set++) {
      if (!fitsHearsay(set)) continue;
      sets++;
      inAll &= set;
      inSome |= set;
    }
    if (what == 0) return sets;
    if (what == 2) return inSome;
    return sets == 0 ? NONE : inAll;
  }

  public int price(int hour, int what) {
    if (!isHour(hour) || !isBit(what)) return BAD;
    int found = NONE;
    for (int v = 0; v <= MOST; v++) {
      if (hill.sellers(hour, v) != hill.buyers(v)) continue;
      if (what == 0) return v;
      found = v;
    }
    return found;
  }

  // ---- kinds, images

  public int rate(int kind, int w) {
    if (!hill.isWorker(w)) return NO;
    switch (kind) {
      case 0: return asNoise(w);
      case 1: return asStruck(w);
      case 2: return asHeld(w);
      case 3: return asBlown(w);
      case 4: return asDrummed(w);
      case 5: return asMany(w);
      default: return NO;
    }
  }

  public int keep(int image) {
    if (!within(image, 0, IMAGES - 1)) return BAD;
    images[image].kept = true;
    images[image].ground.becomes(hill.ground);
    images[image].hearsay.becomes(hearsay);
    return hearsay.told;
  }

  public int back(int image) {
    if (!within(image, 0, IMAGES - 1)) return BAD;
    if (!images[image].kept) return STATE;
    hill.ground.becomes(images[image].ground);
    hearsay.becomes(images[image].hearsay);
    listen();
    return hearsay.told;
  }

  public int count(int what) {
    switch (what) {
      case 0: return hill.wide;
      case 1: return hill.high;
      case 2: return hill.workers;
      case 3: return hill.deeds;
      case 4: return hearsay.told;
      case 5: return reader.text.length;
      case 6: return hill.ground.all(0);
      case 7: return hill.ground.all(1);
      default: return BAD;
    }
  }

  public long trace() {
    return trace;
  }

  // ---- what the calls share

  private static boolean within(int v, int least, int most) {
    return v >= least && v <= most;
  }

  private static boolean isBit(int v) {
    return v == 0 || v == 1;
  }

  private static boolean isHour(int v) {
    return v >= 0 && v < HOURS;
  }

  private static int mostOf(int what) {
    return what == 0 ? MOST_WALLS : MOST_FELT;
  }

  /** Due behind every change of walls, felt, wind, fade or workers: the answers look at what was heard then. */
  private void listen() {
    sound.hearWorkers(hill);
    plans.weigh(hill, sound.louds);
  }

  private int owedFrom(int yard, int noise, int hour) {
    sound.hearSaw(hill, yard, noise);
    int owed = 0;
    for (int d = 0; d < hill.deeds; d++) {
      int[] deed = hill.deedRows[d];
      boolean holds = (hill.holding[hour] >> d & 1) != 0;
      if (holds && deed[YARD] != yard && sound.sawn[deed[YARD]] > deed[LIMIT]) owed += deed[PRICE];
    }
    return owed;
  }

  private boolean fitsHearsay(int set) {
    for (int i = 0; i < hearsay.told; i++) {
      if (sound.heardIn(hill, hearsay.yards[i], set) != hearsay.louds[i]) return false;
    }
    return true;
  }

  private int asNoise(int w) {
    trace += 1;
    return hill.workerRows[w][NOISE];
  }

  private int asStruck(int w) {
    trace += 10;
    return asNoise(w) + hill.workerRows[w][WORTH];
  }

  private int asHeld(int w) {
    trace += 100;
    return asNoise(w) + hill.workerRows[w][YARD];
  }

  private int asBlown(int w) {
    trace += 1000;
    return 2 * asHeld(w);
  }

  private int asDrummed(int w) {
    trace += 10000;
    return asStruck(w) - sound.fade;
  }

  private int asMany(int w) {
    trace += 100000;
    return asNoise(w) + hill.workerRows[w][KIND];
  }

  /** The bytes that have been typed and not yet been read. */
  private static final class Text {
    final int[] bytes = new int[MOST_BYTES];
    int length;

    int append(long v, int n) {
      if (n > MOST_BYTES - length) return FULL;
      for (int i = n - 1; i >= 0; i--) {
        bytes[length] = (int) (v >>> (8 * i)) & 255;
        length++;
      }
      return length;
    }

    int empty() {
      int was = length;
      length = 0;
      return was;
    }
  }

  /** Walls and felt by borders (2 A to the right of yard A, 2 A + 1 below it) and the wind. */
  private static final class Ground {
    final int[] walls = new int[MOST_BORDERS];
    final int[] felt = new int[MOST_BORDERS];
    int right;
    int down;

    int[] rowOf(int what) {
      return what == 0 ? walls : felt;
    }

    int all(int what) {
      int[] row = rowOf(what);
      int sum = 0;
      for (int border = 0; border < MOST_BORDERS; border++) sum += row[border];
      return sum;
    }

    void flatten() {
      Arrays.fill(walls, 0);
      Arrays.fill(felt, 0);
      right = 0;
      down = 0;
    }

    void becomes(Ground other) {
      System.arraycopy(other.walls, 0, walls, 0, MOST_BORDERS);
      System.arraycopy(other.felt, 0, felt, 0, MOST_BORDERS);
      right = other.right;
      down = other.down;
    }
  }

  /** What a text tells, and the tables that follow from it alone. */
  private static final class Hill {
    int wide = 4;
    int high = 3;
    int workers;
    int deeds;
    final Ground ground = new Ground();
    final int[][] workerRows = new int[MOST_WORKERS][OF_WORKER];
    final int[][] deedRows = new int[MOST_DEEDS][OF_DEED];
    // by hour the bits of deeds that hold; by bits of workers their worth; by bits of deeds their prices
    final int[] holding = new int[HOURS];
    final int[] worths = new int[WORKER_SETS];
    final int[] prices = new int[DEED_SETS];

    void startAnew() {
      wide = 4;
      high = 3;
      workers = 0;
      deeds = 0;
      ground.flatten();
    }

    int yards() {
      return wide * high;
    }

    boolean isYard(int yard) {
      return yard >= 0 && yard < wide * high;
    }

    boolean isWorker(int w) {
      return w >= 0 && w < workers;
    }

    boolean isDeed(int d) {
      return d >= 0 && d < deeds;
    }

    int allWorkers() {
      return (1 << workers) - 1;
    }

    /** The yard on the far side of a border, seen from yard border / 2; NONE if the hill ends there. */
    int beyond(int border) {
      int yard = border / 2;
      if (border < 0 || !isYard(yard) || wide < 1) return NONE;
      if (border % 2 == 0) return (yard + 1) % wide == 0 ? NONE : yard + 1;
      return isYard(yard + wide) ? yard + wide : NONE;
    }

    int borderOf(int a, int b) {
      if (!isYard(a) || !isYard(b)) return NONE;
      int lower = Math.min(a, b);
      int other = Math.max(a, b);
      if (beyond(2 * lower) == other) return 2 * lower;
      if (beyond(2 * lower + 1) == other) return 2 * lower + 1;
      return NONE;
    }

    void settle() {
      Arrays.fill(holding, 0);
      for (int d = 0; d < deeds; d++) settleHours(d);
      for (int w = 0; w < workers; w++) {
        int bit = 1 << w;
        for (int set = 0; set < bit; set++) worths[bit + set] = worths[set] + workerRows[w][WORTH];
      }
      for (int d = 0; d < deeds; d++) {
        int bit = 1 << d;
        for (int set = 0; set < bit; set++) prices[bit + set] = prices[set] + deedRows[d][PRICE];
      }
    }

    private void settleHours(int d) {
      int[] deed = deedRows[d];
      deed[HOLDS] = 0;
      for (int hour = deed[FIRST]; hour <= deed[LAST] && hour < HOURS; hour++) {
        if (isOwned(deed[YARD], hour)) continue;
        deed[HOLDS] |= 1 << hour;
        holding[hour] |= 1 << d;
      }
    }

    private boolean isOwned(int yard, int hour) {
      for (int d = 0; d < deeds; d++) {
        if ((holding[hour] >> d & 1) != 0 && deedRows[d][YARD] == yard) return true;
      }
      return false;
    }

    int sellers(int hour, int v) {
      int number = 0;
      for (int d = 0; d < deeds; d++) {
        if ((holding[hour] >> d & 1) != 0 && deedRows[d][PRICE] <= v) number++;
      }
      return number;
    }

    int buyers(int v) {
      int number = 0;
      for (int w = 0; w < workers; w++) {
        if (workerRows[w][WORTH] >= v) number++;
      }
      return number;
    }
  }

  /** Reads the text, token by token, into a hill; where it stops, start is the fault. */
  private static final class Reader {
    private static final int END = 0, ODD = 1, NUMBER = 2, SEMICOLON = 3, HILL = 4, WALL = 5, FELT = 6;
    private static final int WIND = 7, RIGHT = 8, LEFT = 9, DOWN = 10, UP = 11, WORKER = 12, DEED = 13;

    final Text text = new Text();
    private final int[] numbers = new int[2];
    private int at;
    private int start;
    private int token;
    private int value;

    /** How many items the text tells, or -10 less its fault. */
    int read(Hill told) {
      told.startAnew();
      at = 0;
      for (int items = 0; items <= MOST_BYTES; items++) {
        nextToken();
        if (token == END) return items;
        boolean stands;
        switch (token) {
          case HILL: stands = items == 0 && readSize(told); break;
          case WALL: stands = readBorder(told, 0); break;
          case FELT: stands = readBorder(told, 1); break;
          case WIND: stands = readWind(told.ground); break;
          case WORKER: stands = readWorker(told); break;
          case DEED: stands = readDeed(told); break;
          default: stands = false; break;
        }
        if (stands) stands = readSemicolon();
        if (!stands) return FAULT - start;
      }
      return FAULT - start;
    }

    private boolean readSize(Hill told) {
      if (!readNumber(1, MOST_WIDE, numbers, 0) || !readNumber(1, MOST_HIGH, numbers, 1)) return false;
      told.wide = numbers[0];
      told.high = numbers[1];
      return true;
    }

    private boolean readBorder(Hill told, int what) {
      if (!readNumber(0, told.yards() - 1, numbers, 0)) return false;
      if (!readNumber(0, told.yards() - 1, numbers, 1)) return false;
      int border = told.borderOf(numbers[0], numbers[1]);
      return border >= 0 && readNumber(0, mostOf(what), told.ground.rowOf(what), border);
    }

    private boolean readWind(Ground ground) {
      nextToken();
      int way = token;
      if (way != RIGHT && way != LEFT && way != DOWN && way != UP) return false;
      if (!readNumber(0, MOST_WIND, numbers, 0)) return false;
      int blows = way == RIGHT || way == DOWN ? numbers[0] : -numbers[0];
      if (way == RIGHT || way == LEFT) ground.right = blows;
      else ground.down = blows;
      return true;
    }

    private boolean readWorker(Hill told) {
      if (told.workers >= MOST_WORKERS) return false;
      int[] row = told.workerRows[told.workers];
      told.workers++;
      return readNumber(0, told.yards() - 1, row, YARD) && readNumber(1, MOST, row, NOISE)
          && readNumber(0, MOST_KIND, row, KIND) && readNumber(0, MOST, row, WORTH);
    }

    private boolean readDeed(Hill told) {
      if (told.deeds >= MOST_DEEDS) return false;
      int[] row = told.deedRows[told.deeds];
      told.deeds++;
      return readNumber(0, told.yards() - 1, row, YARD) && readNumber(0, HOURS - 1, row, FIRST)
          && readNumber(row[FIRST], HOURS - 1, row, LAST)
          && readNumber(0, MOST, row, LIMIT) && readNumber(0, MOST, row, PRICE);
    }

    private boolean readNumber(int least, int most, int[] row, int place) {
      nextToken();
      if (token != NUMBER || !within(value, least, most)) return false;
      if (place < 0 || place >= row.length) return false;
      row[place] = value;
      return true;
    }

    private boolean readSemicolon() {
      nextToken();
      return token == SEMICOLON;
    }

    private void nextToken() {
      while (at < text.length && text.bytes[at] == ' ') at++;
      start = at;
      if (at >= text.length) token = END;
      else if (isLetter(at)) token = wordToken();
      else if (isDigit(at)) token = numberToken();
      else {
        token = text.bytes[at] == ';' ? SEMICOLON : ODD;
        at++;
      }
    }

    private boolean isLetter(int place) {
      return text.bytes[place] >= 'a' && text.bytes[place] <= 'z';
    }

    private boolean isDigit(int place) {
      return text.bytes[place] >= '0' && text.bytes[place] <= '9';
    }

    private int numberToken() {
      value = 0;
      while (at < text.length && isDigit(at)) {
        // further digits change nothing once it is too great, and would run over
        if (value <= MOST) value = 10 * value + text.bytes[at] - '0';
        at++;
      }
      boolean zeroAhead = text.bytes[start] == '0' && at - start > 1;
      return zeroAhead || value > MOST ? ODD : NUMBER;
    }

    private int wordToken() {
      while (at < text.length && isLetter(at)) at++;
      if (spells("hill")) return HILL;
      if (spells("wall")) return WALL;
      if (spells("felt")) return FELT;
      if (spells("wind")) return WIND;
      if (spells("right")) return RIGHT;
      if (spells("left")) return LEFT;
      if (spells("down")) return DOWN;
      if (spells("up")) return UP;
      if (spells("worker")) return WORKER;
      if (spells("deed")) return DEED;
      return ODD;
    }

    private boolean spells(String word) {
      if (at - start != word.length()) return false;
      for (int i = 0; i < word.length(); i++) {
        if (text.bytes[start + i] != word.charAt(i)) return false;
      }
      return true;
    }
  }

  /** How loud noises are, yard by yard. */
  private static final class Sound {
    final int[][] louds = new int[MOST_WORKERS][MOST_YARDS];
    final int[] sawn = new int[MOST_YARDS];
    int fade = 3;

    void hearWorkers(Hill hill) {
      for (int w = 0; w < hill.workers; w++) {
        spread(hill, hill.workerRows[w][YARD], hill.workerRows[w][NOISE], louds[w]);
      }
    }

    void hearSaw(Hill hill, int yard, int noise) {
      spread(hill, yard, noise, sawn);
    }

    int heardIn(Hill hill, int yard, int set) {
      int sum = 0;
      for (int w = 0; w < hill.workers; w++) {
        if ((set >> w & 1) != 0) sum += louds[w][yard];
      }
      return sum;
    }

    private void spread(Hill hill, int yard, int noise, int[] row) {
      Arrays.fill(row, 0);
      row[yard] = noise;
      boolean changed = true;
      // each round goes at least one border further along every way, and no loudest way enters a yard twice;
      // a sweep on leaves nothing to carry on, so all is settled once the sweep against changes nothing
      for (int round = 0; round < MOST_YARDS && changed; round++) {
        sweepOn(hill, row);
        changed = sweepAgainst(hill, row);
      }
    }

    private void sweepOn(Hill hill, int[] row) {
      Ground ground = hill.ground;
      int toRight = lossWith(ground.right);
      int toDown = lossWith(ground.down);
      for (int y = 0; y < hill.high; y++) {
        for (int x = 0; x < hill.wide; x++) {
          int yard = hill.wide * y + x;
          int below = yard + hill.wide;
          if (x + 1 < hill.wide) carry(ground, 2 * yard, row, yard, yard + 1, toRight);
          if (y + 1 < hill.high) carry(ground, 2 * yard + 1, row, yard, below, toDown);
        }
      }
    }

    private boolean sweepAgainst(Hill hill, int[] row) {
      Ground ground = hill.ground;
      int toLeft = lossWith(-ground.right);
      int toUp = lossWith(-ground.down);
      boolean changed = false;
      for (int y = hill.high - 1; y >= 0; y--) {
        for (int x = hill.wide - 1; x >= 0; x--) {
          int yard = hill.wide * y + x;
          int below = yard + hill.wide;
          if (x + 1 < hill.wide && carry(ground, 2 * yard, row, yard + 1, yard, toLeft)) changed = true;
          if (y + 1 < hill.high && carry(ground, 2 * yard + 1, row, below, yard, toUp)) changed = true;
        }
      }
      return changed;
    }

    private int lossWith(int wind) {
      return Math.max(1, fade - wind);
    }

    private static boolean carry(Ground ground, int border, int[] row, int from, int to, int loss) {
      if (row[from] <= loss) return false;
      int left = ((row[from] - loss) >> ground.walls[border]) - ground.felt[border];
      if (left <= row[to]) return false;
      row[to] = left;
      return true;
    }
  }

  /** By sets of workers what they break, and the best set of an hour. */
  private static final class Plans {
    final int[] breaks = new int[WORKER_SETS];
    private final int[] sums = new int[WORKER_SETS];
    int chosen;
    int brings;

    /** Fills breaks with the deeds that a set would break if they held. */
    void weigh(Hill hill, int[][] louds) {
      Arrays.fill(breaks, 0);
      for (int d = 0; d < hill.deeds; d++) {
        int[] deed = hill.deedRows[d];
        for (int w = 0; w < hill.workers; w++) {
          boolean ownYard = hill.workerRows[w][YARD] == deed[YARD];
          int more = ownYard ? 0 : louds[w][deed[YARD]];
          addWorker(1 << w, more, deed[LIMIT], 1 << d);
        }
      }
    }

    private void addWorker(int bit, int more, int limit, int deedBit) {
      for (int set = 0; set < bit; set++) {
        sums[bit + set] = sums[set] + more;
        if (sums[bit + set] > limit) breaks[bit + set] |= deedBit;
      }
    }

    void choose(Hill hill, int hour, int paid) {
      chosen = 0;
      brings = 0;
      for (int set = 1; set <= hill.allWorkers(); set++) {
        int broken = breaks[set] & hill.holding[hour];
        if (paid == 0 && broken != 0) continue;
        int bringing = hill.worths[set] - hill.prices[broken];
        if (bringing > brings) {
          brings = bringing;
          chosen = set;
        }
      }
    }

    int wholeDay(Hill hill, int paid) {
      int all = 0;
      for (int hour = 0; hour < HOURS; hour++) {
        choose(hill, hour, paid);
        all += brings;
      }
      return all;
    }
  }

  /** What is told of how loud it was where. */
  private static final class Hearsay {
    final int[] yards = new int[MOST_HEARSAY];
    final int[] louds = new int[MOST_HEARSAY];
    int told;

    int add(int yard, int loud) {
      if (told >= MOST_HEARSAY) return FULL;
      yards[told] = yard;
      louds[told] = loud;
      told++;
      return told;
    }

    int empty() {
      int was = told;
      told = 0;
      return was;
    }

    void becomes(Hearsay other) {
      System.arraycopy(other.yards, 0, yards, 0, MOST_HEARSAY);
      System.arraycopy(other.louds, 0, louds, 0, MOST_HEARSAY);
      told = other.told;
    }
  }

  /** A kept ground and hearsay. */
  private static final class Image {
    final Ground ground = new Ground();
    final Hearsay hearsay = new Hearsay();
    boolean kept;
  }
}
