import java.io.IOException;
import java.lang.reflect.Field;
import java.lang.reflect.Method;
import java.lang.reflect.Modifier;
import java.nio.file.Files;
import java.nio.file.Path;
import java.util.Arrays;
import java.util.Set;
import java.util.TreeSet;
import java.util.regex.Matcher;
import java.util.regex.Pattern;

// The class's face is the document's and no more, and its source keeps to LANGUAGE.md where that can be looked up.
public final class FaceTest {
  private static final String[] FACE = {
    "int feed(int)", "int end(int)", "int text()", "int fault()", "int rule(int)", "int star(int,int)",
    "int walker(int)", "int plan(int)", "int set(int,int)", "int cloud(int,boolean)", "int know(int,boolean)",
    "int turn(int,int)", "int teach(int,int)", "int plans(int)", "int cut(int)", "int pull(int)", "int up(int)",
    "int go(int)", "int runs(int)", "int next()", "int best(int,int)", "int front(int)", "int lessons(int)",
    "int thirst()", "int weather()", "long luck(int,int)", "long mean(int,int)", "int see(int,int)",
    "int forget(int)", "int aims(int)", "int whose()", "int fits(int)", "int drift(int,int,int)", "int keep(int)",
    "int back(int)", "int sheet(int,int,int)", "int lay(int,int,int)", "int read(int,int,int,int)", "int torn()",
    "int count(int)"};
  private static final String[] BANNED = {
    "throw", "throws", "try", "catch", "finally", "synchronized", "assert", "import", "package", "protected",
    "var", "native", "volatile", "transient", "Object", "System\\.(?!arraycopy)", "Exact", "hashCode", "toString",
    "NaN", "Thread", "Random"};
  private static final Set<String> LIBRARY = Set.of("Math.abs", "Math.max", "Math.min", "Integer.bitCount", "System.arraycopy");
  private static int wrong = 0;

  private static void due(String what, boolean is) {
    if (!is) {
      wrong++;
      System.out.println(what);
    }
  }

  private static String signOf(Method m) {
    StringBuilder b = new StringBuilder(m.getReturnType().getSimpleName()).append(' ').append(m.getName()).append('(');
    for (Class<?> p : m.getParameterTypes()) {
      b.append(b.charAt(b.length() - 1) == '(' ? "" : ",").append(p.getSimpleName());
    }
    return b.append(')').toString();
  }

  private static void lookAtFace() {
    due("the class is public and final", (StarWalk.class.getModifiers() & (Modifier.PUBLIC | Modifier.FINAL)) == (Modifier.PUBLIC | Modifier.FINAL));
    Set<String> want = new TreeSet<>(Arrays.asList(FACE));
    Set<String> got = new TreeSet<>();
    Set<String> names = new TreeSet<>();
    for (Method m : StarWalk.class.getDeclaredMethods()) {
      if (Modifier.isPublic(m.getModifiers())) {
        got.add(signOf(m));
        names.add(m.getName());
        due(m + " is an object's own", !Modifier.isStatic(m.getModifiers()));
      } else {
        due(m + " is private", Modifier.isPrivate(m.getModifiers()));
      }
    }
    due("methods are " + got, got.equals(want));
    Set<String> constants = new TreeSet<>();
    for (Field f : StarWalk.class.getDeclaredFields()) {
      if (Modifier.isPublic(f.getModifiers())) {
        constants.add(f.getName());
        due(f + " is a constant", Modifier.isStatic(f.getModifiers()) && Modifier.isFinal(f.getModifiers()) && f.getType() == int.class);
      } else {
        due(f + " is private", Modifier.isPrivate(f.getModifiers()));
      }
    }
    due("constants are " + constants, constants.equals(new TreeSet<>(Arrays.asList("BAD", "STATE", "FULL", "NONE"))));
    due("one constructor", StarWalk.class.getDeclaredConstructors().length == 1 && StarWalk.class.getConstructors().length == 1);
    due("at most twelve classes", StarWalk.class.getDeclaredClasses().length < 12);
    for (Method m : StarWalk.class.getDeclaredMethods()) {
      due(m + " bears the name of a public one", Modifier.isPublic(m.getModifiers()) || !names.contains(m.getName()));
    }
    for (Class<?> c : StarWalk.class.getDeclaredClasses()) {
      lookInside(c, names);
    }
  }

  private static void lookInside(Class<?> c, Set<String> names) {
    due(c + " is static and not public", Modifier.isStatic(c.getModifiers()) && !Modifier.isPublic(c.getModifiers()));
    for (Method m : c.getDeclaredMethods()) {
      due(m + " bears the name of a public one", !names.contains(m.getName()));
      due(m + " has seven parameters at most", m.getParameterCount() <= 7);
    }
    int fields = 0;
    for (Field f : c.getDeclaredFields()) {
      boolean isConstant = Modifier.isStatic(f.getModifiers());
      due(f + " is final, as all that is static", !isConstant || Modifier.isFinal(f.getModifiers()));
      fields += isConstant ? 0 : 1;
    }
    due(c + " has twenty fields at most", fields <= 20);
  }

  private static void lookAtSource() throws IOException {
    String source = Files.readString(Path.of("src/main/java/StarWalk.java"));
    String code = source.replaceAll("(?s)/\\*.*?\\*/", "").replaceAll("//[^\n]*", "").replaceAll("\"[^\"]*\"", "\"\"");
    for (String word : BANNED) {
      Matcher m = Pattern.compile("\\b" + word + (word.endsWith(")") ? "" : "\\b")).matcher(code);
      due("'" + word + "' stands in the source", !m.find());
    }
    due("'->' or '::' stands in the source", !code.contains("->") && !code.contains("::"));
    due("an annotation stands in the source", !code.contains("@"));
    Matcher used = Pattern.compile("\\b(Math|Integer|Long|System|Arrays|Character|String|Boolean|Double)\\.\\w+").matcher(code);
    while (used.find()) {
      due(used.group() + " is not among what is used of the library", LIBRARY.contains(used.group()));
    }
    due("a list, a builder or a fraction type stands in the source", !Pattern.compile("\\b(List|ArrayList|StringBuilder|double|float)\\b").matcher(code).find());
    for (int i = 0; i < source.length(); i++) {
      due("a sign above 127 stands in the source", source.charAt(i) < 128);
    }
  }

  /** A method stands from a line that opens a brace at one of two depths to the line that closes it there. */
  private static void lookAtLengths() throws IOException {
    String[] lines = Files.readString(Path.of("src/main/java/StarWalk.java")).split("\n");
    for (String indent : new String[] {"    ", "        "}) {
      int from = -1;
      for (int i = 0; i < lines.length; i++) {
        boolean isMethod = !lines[i].contains(" class ") && !lines[i].matches("\\s*(for|if|while|switch|\\}).*");
        if (lines[i].matches(indent + "\\S.*\\) \\{") && isMethod) {
          from = i;
        } else if (lines[i].equals(indent + "}") && from >= 0) {
          due("line " + (from + 1) + ": more than sixty lines", i - from < 60);
          due("line " + (from + 1) + ": makes an object, and is no constructor", isConstructor(lines[from]) || !makes(lines, from, i));
          from = -1;
        }
      }
    }
  }

  private static boolean isConstructor(String opening) {
    return opening.matches("\\s+(public )?[A-Z]\\w*\\(.*");
  }

  /** All calls of a run share one room, so rows are made with the object and used again. */
  private static boolean makes(String[] lines, int from, int to) {
    for (int i = from; i < to; i++) {
      if (lines[i].matches(".*\\bnew\\s+[A-Za-z].*") && !lines[i].matches("\\s*(//|\\*|/\\*).*")) {
        return true;
      }
    }
    return false;
  }

  public static void main(String[] args) throws IOException {
    lookAtFace();
    lookAtSource();
    lookAtLengths();
    System.out.println(wrong == 0 ? "the face is as due" : wrong + " things are not as due");
    if (wrong != 0) {
      System.exit(1);
    }
  }
}
