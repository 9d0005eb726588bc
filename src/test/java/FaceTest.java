import java.lang.reflect.Constructor;
import java.lang.reflect.Field;
import java.lang.reflect.Method;
import java.lang.reflect.Modifier;
import java.util.TreeSet;

/** The face of the class: just what the document lists is public, and nothing else is to be seen. */
final class FaceTest {
  public static void main(String[] args) {
    Class<?> face = QuietYards.class;
    Due.same("class", Modifier.toString(face.getModifiers()), "public final");
    Due.same("constructors", constructors(face), "public QuietYards()");
    Due.same("fields", fields(face),
        "[public static final int BAD, public static final int FULL, public static final int NO, "
            + "public static final int NONE, public static final int STATE]");
    Due.same("methods", methods(face),
        "[public int back(int), public int best(int,int,int), public int between(int,int,int), "
            + "public int broken(int,int), public int build(int,int,int,int), public int clear(), "
            + "public int count(int), public int day(int), public int deed(int,int), public int fade(int), "
            + "public int forget(), public int hear(int,int), public int heard(int,int), public int hill(), "
            + "public int keep(int), public int loud(int,int), public int plan(int,int,int), "
            + "public int price(int,int), public int rate(int,int), public int saw(int,int,int), "
            + "public int type(long,int), public int who(int), public int wind(int,int), "
            + "public int worker(int,int), public long trace()]");
    noPrivateMethodNamedAsAPublicOne(face);
    Due.close("FaceTest");
  }

  private static boolean isSeen(int modifiers) {
    return !Modifier.isPrivate(modifiers);
  }

  private static String plain(String signature) {
    return signature.replace("QuietYards.", "");
  }

  private static String constructors(Class<?> face) {
    StringBuilder seen = new StringBuilder();
    for (Constructor<?> one : face.getDeclaredConstructors()) seen.append(one.toString());
    return seen.toString();
  }

  private static String fields(Class<?> face) {
    TreeSet<String> seen = new TreeSet<>();
    for (Field one : face.getDeclaredFields()) {
      if (isSeen(one.getModifiers())) seen.add(plain(one.toString()));
    }
    return seen.toString();
  }

  private static String methods(Class<?> face) {
    TreeSet<String> seen = new TreeSet<>();
    for (Method one : face.getDeclaredMethods()) {
      if (isSeen(one.getModifiers()) && !one.isSynthetic()) seen.add(plain(one.toString()));
    }
    return seen.toString();
  }

  private static void noPrivateMethodNamedAsAPublicOne(Class<?> face) {
    TreeSet<String> names = new TreeSet<>();
    for (Method one : face.getDeclaredMethods()) {
      if (Modifier.isPublic(one.getModifiers())) names.add(one.getName());
    }
    for (Class<?> inside : face.getDeclaredClasses()) {
      Due.holds(inside.getName() + " is static and not public",
          Modifier.isStatic(inside.getModifiers()) && !Modifier.isPublic(inside.getModifiers()));
      for (Method one : inside.getDeclaredMethods()) Due.holds(one.toString(), !names.contains(one.getName()));
    }
    for (Method one : face.getDeclaredMethods()) {
      if (!Modifier.isPublic(one.getModifiers())) Due.holds(one.toString(), !names.contains(one.getName()));
    }
  }
}
