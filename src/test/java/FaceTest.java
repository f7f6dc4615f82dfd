import java.io.IOException;
import java.lang.reflect.Constructor;
import java.lang.reflect.Field;
import java.lang.reflect.Method;
import java.lang.reflect.Modifier;
import java.nio.file.Files;
import java.nio.file.Path;
import java.util.Arrays;
import java.util.TreeSet;
import java.util.regex.Matcher;
import java.util.regex.Pattern;

/** The public face, and those rules of LANGUAGE.md that can be read off the source. */
public final class FaceTest {
  private static final String FACE = "int type(long,int), int clear(), int strip(), long crease(int,int), int told(int), "
      + "int fold(int,int), int rule(), int undo(), int says(int), int round(int), int near(int), int wasted(int), "
      + "int fewest(int), int comes(int), int letter(int), int hush(), int meant(int), int wrong(), long got(int), "
      + "int saw(int), int forget(), int from(int), int mark(int,int), int keep(int), int back(int), int count(int), "
      + "long trace()";
  private static final String[] WORDS_OUT_OF_RULES = {"throw", "throws", "try", "catch", "finally", "synchronized",
      "assert", "import", "package", "instanceof", "protected", "double", "float", "volatile", "native", "transient"};

  public static void main(String[] args) throws IOException {
    methods();
    constantsAndConstructor();
    nothingElse();
    source();
    Due.end();
  }

  private static void same(String what, Object got, Object want) {
    Due.holds(what + " is " + got + ", due is " + want, want.equals(got));
  }

  private static void methods() {
    TreeSet<String> got = new TreeSet<>();
    for (Method method : GuessFolds.class.getDeclaredMethods()) {
      if (!Modifier.isPrivate(method.getModifiers())) {
        String parameters = Arrays.toString(method.getParameterTypes()).replaceAll("[\\[\\] ]", "");
        got.add(method.getReturnType() + " " + method.getName() + "(" + parameters + ")");
        same("the way of " + method.getName(), Modifier.toString(method.getModifiers()), "public");
      }
    }
    same("the face", got, new TreeSet<>(Arrays.asList(FACE.split(", "))));
    same("the class", Modifier.toString(GuessFolds.class.getModifiers()), "public final");
  }

  private static void constantsAndConstructor() {
    Due.is("BAD", GuessFolds.BAD, -1);
    Due.is("STATE", GuessFolds.STATE, -2);
    Due.is("FULL", GuessFolds.FULL, -3);
    Due.is("NONE", GuessFolds.NONE, -9);
    Due.is("NO", GuessFolds.NO, -1000000);
    TreeSet<String> constants = new TreeSet<>();
    for (Field field : GuessFolds.class.getDeclaredFields()) {
      if (!Modifier.isPrivate(field.getModifiers())) {
        constants.add(Modifier.toString(field.getModifiers()) + " " + field.getType() + " " + field.getName());
      }
    }
    TreeSet<String> want = new TreeSet<>();
    for (String name : new String[] {"BAD", "STATE", "FULL", "NONE", "NO"}) {
      want.add("public static final int " + name);
    }
    same("the constants", constants, want);
    Constructor<?>[] constructors = GuessFolds.class.getDeclaredConstructors();
    Due.is("constructors", constructors.length, 1);
    same("the constructor", Modifier.toString(constructors[0].getModifiers()), "public");
    Due.is("its parameters", constructors[0].getParameterCount(), 0);
  }

  private static void nothingElse() {
    TreeSet<String> names = new TreeSet<>();
    for (Method method : GuessFolds.class.getDeclaredMethods()) {
      if (!names.add(method.getName())) {
        Due.holds("no two methods are named " + method.getName(), false);
      }
    }
    for (Class<?> inside : GuessFolds.class.getDeclaredClasses()) {
      Due.holds(inside + " is static", Modifier.isStatic(inside.getModifiers()));
      Due.holds(inside + " is no one else's", !Modifier.isPublic(inside.getModifiers()));
      long fields = Arrays.stream(inside.getDeclaredFields()).filter(its -> !Modifier.isStatic(its.getModifiers())).count();
      Due.holds(inside + " has some twenty fields at most", fields <= 20);
    }
    Due.holds("some twelve classes at most", GuessFolds.class.getDeclaredClasses().length <= 11);
  }

  private static void source() throws IOException {
    String source = Files.readString(Path.of("src/main/java/GuessFolds.java"));
    Due.holds("the source's signs are 1 to 127", source.chars().allMatch(sign -> sign > 0 && sign < 128));
    String code = source.replaceAll("(?s)/\\*.*?\\*/", "").replaceAll("//[^\n]*", "");
    for (String word : WORDS_OUT_OF_RULES) {
      Matcher matcher = Pattern.compile("\\b" + word + "\\b").matcher(code);
      Due.holds("no " + word + " in the source", !matcher.find());
    }
    Due.holds("no lambda, no method reference", !code.contains("->") && !code.contains("::"));
    Due.holds("nothing whose name ends in Exact", !code.contains("Exact("));
    // One room for all calls: only constructors make rows, so no method may make anything.
    Matcher made = Pattern.compile("\\bnew (\\w+)").matcher(code);
    while (made.find()) {
      int line = code.lastIndexOf('\n', made.start());
      String ahead = code.substring(line + 1, made.start());
      Due.holds("'new " + made.group(1) + "' stands in a field or in Row's constructor",
          ahead.contains("private final") || ahead.contains("cells ="));
    }
  }
}
