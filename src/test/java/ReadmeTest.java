import java.io.IOException;
import java.lang.reflect.Field;
import java.lang.reflect.Method;
import java.lang.reflect.Modifier;
import java.nio.file.Files;
import java.nio.file.Path;
import java.util.regex.Matcher;
import java.util.regex.Pattern;

/** README.md: its example answers what it says, and every call and constant is named there. */
public final class ReadmeTest {
  private static final Pattern CALL = Pattern.compile("(?m)^x\\.(\\w+)\\(([^)]*)\\); +// (-?[0-9]+)");
  private static final Pattern ANY_CALL = Pattern.compile("(?m)^x\\.");

  public static void main(String[] args) throws ReflectiveOperationException, IOException {
    String readme = Files.readString(Path.of("README.md"));
    example(readme);
    everyCallIsNamed(readme);
    everyConstantIsNamed(readme);
    Due.end();
  }

  private static void example(String readme) throws ReflectiveOperationException {
    GuessFolds x = new GuessFolds();
    Matcher call = CALL.matcher(readme);
    int calls = 0;
    while (call.find()) {
      long due = Long.parseLong(call.group(3));
      Due.is("README.md, x." + call.group(1) + "(" + call.group(2) + ")", ask(x, call.group(1), call.group(2)), due);
      calls++;
    }
    Due.holds("README.md has an example", calls > 0);
    Due.is("calls of the example with their answer", calls, ANY_CALL.matcher(readme).results().count());
  }

  private static long ask(GuessFolds x, String name, String numbers) throws ReflectiveOperationException {
    String[] each = numbers.isEmpty() ? new String[0] : numbers.split(", ");
    Method method = methodNamed(name);
    Class<?>[] types = method.getParameterTypes();
    Object[] its = new Object[each.length];
    for (int i = 0; i < each.length; i++) {
      long number = Long.decode(each[i].replace("L", ""));
      its[i] = types[i] == long.class ? (Object) number : (Object) (int) number;
    }
    return ((Number) method.invoke(x, its)).longValue();
  }

  private static Method methodNamed(String name) throws NoSuchMethodException {
    for (Method method : GuessFolds.class.getDeclaredMethods()) {
      if (method.getName().equals(name) && Modifier.isPublic(method.getModifiers())) {
        return method;
      }
    }
    throw new NoSuchMethodException(name);
  }

  private static void everyCallIsNamed(String readme) {
    for (Method method : GuessFolds.class.getDeclaredMethods()) {
      if (Modifier.isPublic(method.getModifiers())) {
        Due.holds("README.md names " + method.getName(), readme.contains("`" + method.getName() + "`"));
      }
    }
  }

  private static void everyConstantIsNamed(String readme) throws IllegalAccessException {
    for (Field field : GuessFolds.class.getDeclaredFields()) {
      if (Modifier.isPublic(field.getModifiers())) {
        String row = "| `" + field.getName() + "` | " + field.getInt(null) + " |";
        Due.holds("README.md has the row " + row, readme.contains(row));
      }
    }
  }
}
