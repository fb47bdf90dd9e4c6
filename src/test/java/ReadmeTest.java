import java.io.IOException;
import java.lang.reflect.Method;
import java.lang.reflect.Modifier;
import java.nio.file.Files;
import java.nio.file.Path;
import java.util.Set;
import java.util.TreeSet;
import java.util.regex.Matcher;
import java.util.regex.Pattern;

// README.md's example answers as it says there, and every call of the class has a row in its tables and no other has.
public final class ReadmeTest {
  private static final Pattern TOLD = Pattern.compile("String told = \"([^\"]*)\";");
  private static final Pattern CALL = Pattern.compile("walk\\.(\\w+)\\(([^)]*)\\);\\s*// (-?\\d+)\\b");
  private static final Pattern ROW = Pattern.compile("(?m)^\\| `(\\w+)\\(([^)]*)\\)` \\|");
  private static int wrong = 0;

  private static void due(String what, Object got, Object want) {
    if (!got.equals(want)) {
      wrong++;
      System.out.println(what + " answered " + got + ", README.md says " + want);
    }
  }

  private static long ask(StarWalk walk, String name, String written) throws ReflectiveOperationException {
    String[] parts = written.isEmpty() ? new String[0] : written.split(",\\s*");
    Class<?>[] types = new Class<?>[parts.length];
    Object[] values = new Object[parts.length];
    for (int i = 0; i < parts.length; i++) {
      boolean isNumber = parts[i].matches("-?\\d+");
      types[i] = isNumber ? int.class : boolean.class;
      values[i] = isNumber ? (Object) Integer.valueOf(parts[i]) : Boolean.valueOf(parts[i]);
    }
    return ((Number) StarWalk.class.getMethod(name, types).invoke(walk, values)).longValue();
  }

  private static int runExample(String page) throws ReflectiveOperationException {
    StarWalk walk = new StarWalk();
    Matcher told = TOLD.matcher(page);
    due("a text that is told", told.find(), true);
    for (char c : told.group(1).toCharArray()) {
      walk.feed(c);
    }
    int calls = 0;
    Matcher call = CALL.matcher(page);
    while (call.find()) {
      calls++;
      due(call.group(1) + "(" + call.group(2) + ")", ask(walk, call.group(1), call.group(2)), Long.valueOf(call.group(3)));
    }
    return calls;
  }

  private static String typesOf(String parameters) {
    return parameters.replaceAll(" \\w+", "").replace(" ", "");
  }

  private static void lookAtRows(String page) {
    Set<String> rows = new TreeSet<>();
    Matcher row = ROW.matcher(page);
    while (row.find()) {
      due("a first row of " + row.group(1), rows.add(row.group(1) + "(" + typesOf(row.group(2).replace(", ", ",")) + ")"), true);
    }
    Set<String> calls = new TreeSet<>();
    for (Method m : StarWalk.class.getDeclaredMethods()) {
      if (Modifier.isPublic(m.getModifiers())) {
        StringBuilder types = new StringBuilder();
        for (Class<?> type : m.getParameterTypes()) {
          types.append(types.length() == 0 ? "" : ",").append(type.getSimpleName());
        }
        calls.add(m.getName() + "(" + types + ")");
      }
    }
    due("the class's face", calls, rows);
  }

  public static void main(String[] args) throws IOException, ReflectiveOperationException {
    String page = Files.readString(Path.of("README.md"));
    int calls = runExample(page);
    due("calls in the example above 20", calls > 20, true);
    lookAtRows(page);
    System.out.println(calls + " answers of the example, " + wrong + " wrong");
    if (wrong != 0) {
      System.exit(1);
    }
  }
}
