import java.util.EnumMap;
import java.util.Map;

/** What the tests of edges share: prepared objects, a look at all of one, and calls that must be refused without a trace. */
final class Edge {
  static final int BAD = -1, STATE = -2, FULL = -3, NONE = -9, NO = -1000000;

  private static final Map<Made, String> UNASKED = new EnumMap<>(Made.class);

  private Edge() {
  }

  /** A call on an object, and what it answers. */
  interface Call {
    long on(QuietYards yards);
  }

  /** Objects to ask, as a run of calls has left them. */
  enum Made {
    /** A new one. */
    NEW(12, 0, 0, ""),
    /** One yard alone, with all that it may have. */
    ONE(1, 1, 1, ""),
    /** Something of everything, none of it full; both images are kept, and differ. */
    SOME(6, 2, 3, "wall 0 1 2;wind down 2;worker 6 33 4 9;deed 7 1 2 3 4;"),
    /** Six workers, eight deeds, six pieces of hearsay, 400 bytes. */
    MOST(4, 6, 8, "hill 2 1;wall 1 0 1;worker 1 22 0 3;" + " ".repeat(364));

    final int yards;
    final int workers;
    final int deeds;
    /** What is typed and not read. */
    final String text;

    Made(int yards, int workers, int deeds, String text) {
      this.yards = yards;
      this.workers = workers;
      this.deeds = deeds;
      this.text = text;
    }

    QuietYards make() {
      QuietYards made = switch (this) {
        case NEW -> new QuietYards();
        case ONE -> one();
        case SOME -> some();
        case MOST -> most();
      };
      Due.type(made, text);
      return made;
    }
  }

  private static QuietYards one() {
    QuietYards y = Due.told("hill 1 1;worker 0 60 2 7;deed 0 3 9 50 6;");
    y.fade(1);
    y.hear(0, 60);
    y.keep(1);
    return y;
  }

  private static QuietYards some() {
    QuietYards y = Due.told("hill 3 2;wall 0 1 1;felt 1 2 2;wind right 1;wind up 2;"
        + "worker 0 61 3 8;worker 5 47 1 5;deed 2 0 6 21 4;deed 3 5 11 30 6;deed 2 4 8 15 3;");
    y.fade(4);
    y.keep(0);
    y.build(4, 5, 0, 2);
    y.build(1, 4, 1, 3);
    y.wind(-1, 2);
    y.hear(1, y.heard(1, 2));
    y.keep(1);
    y.build(0, 3, 0, 1);
    y.wind(2, 1);
    y.hear(4, y.heard(4, 3));
    y.rate(3, 1);
    return y;
  }

  private static QuietYards most() {
    QuietYards y = Due.told("hill 2 2;worker 0 60 0 9;worker 1 50 1 8;worker 2 40 2 7;worker 3 30 3 6;worker 0 20 4 5;"
        + "worker 1 99 0 4;deed 0 0 11 40 9;deed 1 0 5 41 8;deed 1 3 9 42 7;deed 2 6 6 43 6;deed 3 0 11 0 5;"
        + "deed 3 0 11 99 4;deed 2 0 11 90 3;deed 0 11 11 0 99;");
    y.build(0, 1, 0, 3);
    y.build(2, 3, 1, 9);
    y.wind(-2, 2);
    y.fade(9);
    for (int i = 0; i < 6; i++) y.hear(i % 4, y.heard(i % 4, 45));
    y.keep(0);
    y.rate(5, 2);
    return y;
  }

  /** Asked of that object, the call is refused so; what all calls answer then is as if it had not been asked. */
  static void refused(Made made, String what, long due, Call call) {
    QuietYards asked = made.make();
    Due.same(what + " of " + made, call.on(asked), due);
    if (!UNASKED.containsKey(made)) UNASKED.put(made, all(made.make()));
    Due.same("all behind " + what + " of " + made, all(asked), UNASKED.get(made));
  }

  /** The same for a call that no object answers. */
  static void refused(String what, long due, Call call) {
    for (Made made : Made.values()) refused(made, what, due, call);
  }

  /** A call that is answered, and leaves all as it was. */
  static void leaves(Made made, String what, long due, Call call) {
    refused(made, what, due, call);
  }

  /** Numbers that are not least .. most: next to it, far from it, and such as would be in it if bits were cut. */
  static int[] outside(int least, int most) {
    return new int[] {least - 1, most + 1, least - 2, most + 2, Integer.MIN_VALUE, Integer.MAX_VALUE,
        Integer.MIN_VALUE + least, 256 + most, 65536 + least, 1 << 30, -(1 << 30)};
  }

  /** All that an object answers; it is used up by that. Some 400 calls at most. */
  static String all(QuietYards y) {
    StringBuilder seen = new StringBuilder("trace ").append(y.trace());
    ground(y, seen);
    told(y, seen);
    plans(y, seen);
    int fade = y.fade(5);
    y.fade(fade);
    seen.append("\nfade ").append(fade);
    for (int image = 0; image < 2; image++) {
      seen.append("\nback ").append(y.back(image));
      ground(y, seen);
    }
    seen.append("\nhill ").append(y.hill());
    ground(y, seen);
    return seen.append(" worker ").append(y.worker(0, 1)).append(' ').append(y.worker(0, 3)).append(' ').append(y.deed(0, 5))
        .append("\ntext ").append(y.clear()).append(" back ").append(y.back(0)).append(' ').append(y.back(1))
        .append(" trace ").append(y.trace()).toString();
  }

  /** The same but for what the images and the text hold. */
  static String now(QuietYards y) {
    String all = all(y);
    return all.substring(0, all.indexOf("\nback"));
  }

  private static void ground(QuietYards y, StringBuilder seen) {
    seen.append("\ncount");
    for (int what = 0; what < 8; what++) seen.append(' ').append(y.count(what));
    int wide = y.count(0);
    int yards = wide * y.count(1);
    seen.append(" between");
    for (int a = 0; a < yards; a++) {
      for (int what = 0; what < 2; what++) {
        if ((a + 1) % wide != 0) seen.append(' ').append(y.between(a, a + 1, what));
        if (a + wide < yards) seen.append(' ').append(y.between(a, a + wide, what));
      }
    }
    seen.append(" heard");
    for (int yard = 0; yard < yards; yard++) seen.append(' ').append(y.heard(yard, -1)).append(' ').append(y.heard(yard, 21));
    for (int what = 0; what < 3; what++) seen.append(" who ").append(y.who(what));
  }

  private static void told(QuietYards y, StringBuilder seen) {
    seen.append("\nworkers");
    for (int w = 0; w < y.count(2); w++) {
      for (int what = 0; what < 4; what++) seen.append(' ').append(y.worker(w, what));
      for (int yard = 0; yard < 6; yard++) seen.append(' ').append(y.loud(w, yard));
    }
    seen.append(" deeds");
    for (int d = 0; d < y.count(3); d++) {
      for (int what = 0; what < 6; what++) seen.append(' ').append(y.deed(d, what));
    }
  }

  private static void plans(QuietYards y, StringBuilder seen) {
    seen.append("\nplans");
    for (int hour = 0; hour < 12; hour += 4) {
      seen.append(' ').append(y.broken(hour, -1));
      seen.append(' ').append(y.plan(hour, 0, 0)).append(' ').append(y.plan(hour, 1, 1));
      seen.append(' ').append(y.price(hour, 0)).append(' ').append(y.price(hour, 1));
      seen.append(' ').append(y.saw(40, hour, 0)).append(' ').append(y.saw(40, hour, 1));
    }
    seen.append(" day ").append(y.day(0)).append(' ').append(y.day(1));
    seen.append(" best ").append(y.best(0, 0, 0)).append(' ').append(y.best(1, 1, 1));
  }
}
