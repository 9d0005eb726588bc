import java.util.ArrayList;
import java.util.Arrays;
import java.util.List;
import java.util.Map;
import java.util.TreeMap;
import java.util.regex.Matcher;
import java.util.regex.Pattern;

/** The document once more, slow and told otherwise than in the class: answers to compare with. */
final class Model {
  private static final int BAD = -1, STATE = -2, FULL = -3, NONE = -9, NO = -1000000;
  private static final Pattern TOKEN = Pattern.compile(" *([a-z]+|[0-9]+|;|$|.)", Pattern.DOTALL);
  private static final Map<String, Integer> NUMBERS = Map.of("hill", 2, "wall", 3, "felt", 3, "worker", 4, "deed", 5);

  /** What can be kept and brought back. */
  private static final class State {
    Map<Integer, Integer> walls = new TreeMap<>();
    Map<Integer, Integer> felt = new TreeMap<>();
    int right;
    int down;
    List<int[]> hearsay = new ArrayList<>();

    State copy() {
      State other = new State();
      other.walls.putAll(walls);
      other.felt.putAll(felt);
      other.right = right;
      other.down = down;
      other.hearsay.addAll(hearsay);
      return other;
    }

    Map<Integer, Integer> of(int what) {
      return what == 0 ? walls : felt;
    }
  }

  /** Where a text can't be read on. */
  private static final class Fault extends Exception {
    private static final long serialVersionUID = 1;
    final int place;

    Fault(int place) {
      this.place = place;
    }
  }

  private String text = "";
  private int wide = 4;
  private int high = 3;
  private int fade = 3;
  private long trace;
  private State state = new State();
  private List<int[]> workers = new ArrayList<>();
  private List<int[]> deeds = new ArrayList<>();
  private final State[] images = new State[2];

  int type(long v, int n) {
    if (n < 1 || n > 8) return BAD;
    if (text.length() + n > 400) return FULL;
    for (int i = n; i > 0; i--) text += (char) (v >> 8 * (i - 1) & 255);
    return text.length();
  }

  int clear() {
    int was = text.length();
    text = "";
    return was;
  }

  // ---- reading: a new model takes the items, one by one

  int hill() {
    Model told = new Model();
    int items = 0;
    try {
      Matcher matcher = TOKEN.matcher(text);
      while (matcher.find() && !matcher.group(1).isEmpty()) {
        told.item(matcher, items);
        items++;
      }
    } catch (Fault fault) {
      return -10 - fault.place;
    }
    text = "";
    wide = told.wide;
    high = told.high;
    state = told.state;
    workers = told.workers;
    deeds = told.deeds;
    Arrays.fill(images, null);
    return items;
  }

  private void item(Matcher matcher, int items) throws Fault {
    String word = matcher.group(1);
    int place = matcher.start(1);
    if (!List.of("hill", "wall", "felt", "wind", "worker", "deed").contains(word)
        || word.equals("hill") && items > 0
        || word.equals("worker") && workers.size() == 6
        || word.equals("deed") && deeds.size() == 8) throw new Fault(place);
    if (word.equals("wind")) {
      matcher.find();
      String way = matcher.group(1);
      if (!List.of("right", "left", "up", "down").contains(way)) throw new Fault(matcher.start(1));
      int strength = number(matcher, 0, 2);
      if (way.equals("right")) state.right = strength;
      if (way.equals("left")) state.right = -strength;
      if (way.equals("down")) state.down = strength;
      if (way.equals("up")) state.down = -strength;
    } else {
      int[] row = new int[NUMBERS.get(word)];
      for (int i = 0; i < row.length; i++) row[i] = itemNumber(matcher, word, row, i);
      take(word, row);
    }
    matcher.find();
    if (!matcher.group(1).equals(";")) throw new Fault(matcher.start(1));
  }

  private int itemNumber(Matcher matcher, String word, int[] row, int i) throws Fault {
    int last = wide * high - 1;
    switch (word) {
      case "hill":
        return number(matcher, 1, i == 0 ? 8 : 6);
      case "wall":
      case "felt":
        int n = number(matcher, 0, i < 2 ? last : word.equals("wall") ? 3 : 9);
        if (i == 1 && !neighbours(row[0], n)) throw new Fault(matcher.start(1));
        return n;
      case "worker":
        return number(matcher, i == 1 ? 1 : 0, new int[] {last, 99, 4, 99}[i]);
      default:
        return number(matcher, i == 2 ? row[1] : 0, new int[] {last, 11, 11, 99, 99}[i]);
    }
  }

  private void take(String word, int[] row) {
    if (word.equals("hill")) {
      wide = row[0];
      high = row[1];
    }
    if (word.equals("wall")) state.walls.put(pair(row[0], row[1]), row[2]);
    if (word.equals("felt")) state.felt.put(pair(row[0], row[1]), row[2]);
    if (word.equals("worker")) workers.add(row);
    if (word.equals("deed")) deeds.add(row);
  }

  private static int number(Matcher matcher, int least, int most) throws Fault {
    matcher.find();
    String token = matcher.group(1);
    boolean stands = token.matches("0|[1-9][0-9]?");
    if (!stands || Integer.parseInt(token) < least || Integer.parseInt(token) > most) throw new Fault(matcher.start(1));
    return Integer.parseInt(token);
  }

  // ---- the ground

  private boolean isYard(int yard) {
    return yard >= 0 && yard < wide * high;
  }

  private boolean neighbours(int a, int b) {
    if (!isYard(a) || !isYard(b)) return false;
    return Math.abs(a % wide - b % wide) + Math.abs(a / wide - b / wide) == 1;
  }

  private static int pair(int a, int b) {
    return 100 * Math.min(a, b) + Math.max(a, b);
  }

  private static boolean in(int v, int least, int most) {
    return least <= v && v <= most;
  }

  int between(int a, int b, int what) {
    if (!neighbours(a, b) || !in(what, 0, 1)) return BAD;
    return state.of(what).getOrDefault(pair(a, b), 0);
  }

  int build(int a, int b, int what, int n) {
    int was = between(a, b, what);
    if (was == BAD || !in(n, 0, what == 0 ? 3 : 9)) return BAD;
    state.of(what).put(pair(a, b), n);
    return was;
  }

  int wind(int right, int down) {
    if (!in(right, -2, 2) || !in(down, -2, 2)) return BAD;
    state.right = right;
    state.down = down;
    return 1;
  }

  int fade(int v) {
    if (!in(v, 1, 9)) return BAD;
    int was = fade;
    fade = v;
    return was;
  }

  int worker(int w, int what) {
    return in(w, 0, workers.size() - 1) && in(what, 0, 3) ? workers.get(w)[what] : BAD;
  }

  int deed(int d, int what) {
    if (!in(d, 0, deeds.size() - 1) || !in(what, 0, 5)) return BAD;
    if (what < 5) return deeds.get(d)[what];
    int hours = 0;
    for (int hour = 0; hour < 12; hour++) if (holds(d, hour)) hours += 1 << hour;
    return hours;
  }

  private boolean covers(int d, int hour) {
    return in(hour, deeds.get(d)[1], deeds.get(d)[2]);
  }

  private boolean holds(int d, int hour) {
    for (int e = 0; e < d; e++) {
      if (deeds.get(e)[0] == deeds.get(d)[0] && covers(e, hour)) return false;
    }
    return covers(d, hour);
  }

  // ---- how loud

  private int[] spread(int source, int noise) {
    int[] loud = new int[wide * high];
    loud[source] = noise;
    for (int again = 0; again < loud.length; again++) {
      for (int a = 0; a < loud.length; a++) {
        for (int b = 0; b < loud.length; b++) {
          if (!neighbours(a, b)) continue;
          int wind = b - a == wide && b / wide != a / wide ? state.down
              : a - b == wide && b / wide != a / wide ? -state.down : b > a ? state.right : -state.right;
          int passed = loud[a] - Math.max(1, fade - wind);
          for (int i = 0; i < between(a, b, 0); i++) passed /= 2;
          loud[b] = Math.max(loud[b], passed - between(a, b, 1));
        }
      }
    }
    return loud;
  }

  private int[][] louds() {
    int[][] louds = new int[workers.size()][];
    for (int w = 0; w < louds.length; w++) louds[w] = spread(worker(w, 0), worker(w, 1));
    return louds;
  }

  private static boolean has(int set, int bit) {
    return (set & 1 << bit) != 0;
  }

  int loud(int w, int yard) {
    return in(w, 0, workers.size() - 1) && isYard(yard) ? spread(worker(w, 0), worker(w, 1))[yard] : BAD;
  }

  private int heard(int[][] louds, int yard, int set) {
    int sum = 0;
    for (int w = 0; w < louds.length; w++) if (has(set, w)) sum += louds[w][yard];
    return sum;
  }

  int heard(int yard, int set) {
    return isYard(yard) ? heard(louds(), yard, set) : BAD;
  }

  private int broken(int[][] louds, int hour, int set) {
    int broken = 0;
    for (int d = 0; d < deeds.size(); d++) {
      if (!holds(d, hour)) continue;
      int away = set;
      for (int w = 0; w < workers.size(); w++) if (worker(w, 0) == deed(d, 0)) away &= ~(1 << w);
      if (heard(louds, deed(d, 0), away) > deed(d, 3)) broken += 1 << d;
    }
    return broken;
  }

  int broken(int hour, int set) {
    return in(hour, 0, 11) ? broken(louds(), hour, set) : BAD;
  }

  // ---- plans

  private int[] plan(int[][] louds, int hour, int paid) {
    int[] best = {0, 0};
    for (int set = 0; set < 1 << workers.size(); set++) {
      int broken = broken(louds, hour, set);
      if (paid == 0 && broken != 0) continue;
      int brings = 0;
      for (int w = 0; w < workers.size(); w++) if (has(set, w)) brings += worker(w, 3);
      for (int d = 0; d < deeds.size(); d++) if (has(broken, d)) brings -= deed(d, 4);
      if (brings > best[1]) best = new int[] {set, brings};
    }
    return best;
  }

  int plan(int hour, int paid, int what) {
    return in(hour, 0, 11) && in(paid, 0, 1) && in(what, 0, 1) ? plan(louds(), hour, paid)[what] : BAD;
  }

  int day(int paid) {
    if (!in(paid, 0, 1)) return BAD;
    int[][] louds = louds();
    int all = 0;
    for (int hour = 0; hour < 12; hour++) all += plan(louds, hour, paid)[1];
    return all;
  }

  int best(int kind, int paid, int what) {
    if (!in(kind, 0, 1) || !in(paid, 0, 1) || !in(what, 0, 1)) return BAD;
    int most = day(paid);
    int where = NONE;
    for (int a = 0; a < wide * high; a++) {
      for (int b = a + 1; b < wide * high; b++) {
        int had = between(a, b, kind);
        if (had == BAD || build(a, b, kind, had + 1) == BAD) continue;
        int now = day(paid);
        build(a, b, kind, had);
        if (now > most) {
          most = now;
          where = 100 * a + b;
        }
      }
    }
    return where == NONE || what == 0 ? where : most;
  }

  int saw(int n, int hour, int what) {
    if (!in(n, 1, 99) || !in(hour, 0, 11) || !in(what, 0, 1)) return BAD;
    int[] best = {-1, Integer.MAX_VALUE};
    for (int yard = 0; yard < wide * high; yard++) {
      int[] loud = spread(yard, n);
      int owes = 0;
      for (int d = 0; d < deeds.size(); d++) {
        if (holds(d, hour) && deed(d, 0) != yard && loud[deed(d, 0)] > deed(d, 3)) owes += deed(d, 4);
      }
      if (owes < best[1]) best = new int[] {yard, owes};
    }
    return best[what];
  }

  // ---- hearsay, prices

  int hear(int yard, int loud) {
    if (!isYard(yard) || !in(loud, 0, 999)) return BAD;
    if (state.hearsay.size() == 6) return FULL;
    state.hearsay.add(new int[] {yard, loud});
    return state.hearsay.size();
  }

  int forget() {
    int was = state.hearsay.size();
    state.hearsay.clear();
    return was;
  }

  int who(int what) {
    if (!in(what, 0, 2)) return BAD;
    int[][] louds = louds();
    List<Integer> sets = new ArrayList<>();
    for (int set = 0; set < 1 << workers.size(); set++) {
      int tried = set;
      if (state.hearsay.stream().allMatch(one -> heard(louds, one[0], tried) == one[1])) sets.add(set);
    }
    if (what == 0) return sets.size();
    if (what == 1) return sets.stream().reduce((a, b) -> a & b).orElse(NONE);
    return sets.stream().reduce(0, (a, b) -> a | b);
  }

  int price(int hour, int what) {
    if (!in(hour, 0, 11) || !in(what, 0, 1)) return BAD;
    List<Integer> stand = new ArrayList<>();
    for (int v = 0; v <= 99; v++) {
      int most = v;
      long buyers = workers.stream().filter(worker -> worker[3] >= most).count();
      long sellers = 0;
      for (int d = 0; d < deeds.size(); d++) if (holds(d, hour) && deed(d, 4) <= v) sellers++;
      if (buyers == sellers) stand.add(v);
    }
    return stand.isEmpty() ? NONE : what == 0 ? stand.get(0) : stand.get(stand.size() - 1);
  }

  // ---- kinds, images

  int rate(int kind, int w) {
    if (!in(kind, 0, 5) || !in(w, 0, workers.size() - 1)) return NO;
    int[] weights = {1, 10, 100, 1000, 10000, 100000};
    int[] above = {-1, 0, 0, 2, 1, 0};
    trace += weights[kind];
    int up = above[kind] < 0 ? worker(w, 1) : rate(above[kind], w);
    return new int[] {up, up + worker(w, 3), up + worker(w, 0), 2 * up, up - fade, up + worker(w, 2)}[kind];
  }

  int keep(int image) {
    if (!in(image, 0, 1)) return BAD;
    images[image] = state.copy();
    return state.hearsay.size();
  }

  int back(int image) {
    if (!in(image, 0, 1)) return BAD;
    if (images[image] == null) return STATE;
    state = images[image].copy();
    return state.hearsay.size();
  }

  int count(int what) {
    if (!in(what, 0, 7)) return BAD;
    int walls = state.walls.values().stream().mapToInt(n -> n).sum();
    int felt = state.felt.values().stream().mapToInt(n -> n).sum();
    return new int[] {wide, high, workers.size(), deeds.size(), state.hearsay.size(), text.length(), walls, felt}[what];
  }

  long trace() {
    return trace;
  }
}
