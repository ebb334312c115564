import java.lang.reflect.Constructor;
import java.lang.reflect.Field;
import java.lang.reflect.Method;
import java.lang.reflect.Modifier;
import java.nio.file.Files;
import java.nio.file.Path;
import java.util.Map;
import java.util.Set;
import java.util.TreeMap;
import java.util.TreeSet;
import java.util.regex.Matcher;
import java.util.regex.Pattern;

// The public face of the document, and the rules of LANGUAGE.md that can be seen in the compiled
// class or in the source text. It is run from the project's directory.
public final class LanguageTests {
  private static final Set<String> FACE = Set.of(
      "int BAD_ARG", "int FULL", "int TOO_FEW", "int NONE", "int TOO_MANY",
      "int access(int)", "int work(int)", "int join(int)", "int loop(int,int)", "int depth()",
      "int discard()", "int program()", "int paths()", "int length()", "int worst()", "int best()",
      "int worstRuns()", "int choice(int)", "int bound()", "int sure(int)", "int misses(int)",
      "int hits(int)", "int fewest(int)", "int ends()", "int holds(int)");
  private static final Set<String> TYPES =
      Set.of("int", "long", "short", "byte", "char", "boolean");

  private static int wrong = 0;

  private static void due(String what, boolean holds) {
    if (!holds) {
      wrong++;
      System.out.println(what);
    }
  }

  private static boolean isAllowed(Class<?> type) {
    Class<?> plain = type.isArray() ? type.getComponentType() : type;
    return TYPES.contains(plain.getName());
  }

  private static String parameters(Class<?>[] types) {
    StringBuilder text = new StringBuilder();
    for (Class<?> type : types) {
      text.append(text.length() == 0 ? "" : ",").append(type.getSimpleName());
    }
    return text.toString();
  }

  private static void checkFields(Set<String> seen) {
    int count = 0;
    for (Field field : CycleBounds.class.getDeclaredFields()) {
      String name = field.getName();
      boolean isStatic = Modifier.isStatic(field.getModifiers());
      due(name + " is of a type that rule 2 forbids", isAllowed(field.getType()));
      due(name + " is an array and not final (rule 4)",
          !field.getType().isArray() || Modifier.isFinal(field.getModifiers()));
      if (isStatic) {
        due(name + " is static and no constant number (rule 5)",
            Modifier.isFinal(field.getModifiers())
                && (field.getType() == int.class || field.getType() == long.class));
      } else {
        count++;
      }
      if (Modifier.isPublic(field.getModifiers())) {
        due(name + " is public and no constant", isStatic);
        seen.add(field.getType().getSimpleName() + " " + name);
      } else {
        due(name + " is not private (rule 1)", Modifier.isPrivate(field.getModifiers()));
      }
    }
    due(count + " fields are more than forty (rule 10)", count <= 40);
  }

  private static void checkMethods(Set<String> seen) {
    Set<String> publicNames = new TreeSet<>();
    for (String member : FACE) {
      publicNames.add(member.replaceAll("int ([A-Za-z_]+).*", "$1"));
    }
    for (Method method : CycleBounds.class.getDeclaredMethods()) {
      String name = method.getName();
      due(name + " has more than seven parameters (rule 10)", method.getParameterCount() <= 7);
      for (Class<?> type : method.getParameterTypes()) {
        due(name + " takes a type that rule 2 forbids", isAllowed(type));
      }
      due(name + " answers an array (rule 4)", !method.getReturnType().isArray());
      if (Modifier.isPublic(method.getModifiers())) {
        due(name + " is public and static", !Modifier.isStatic(method.getModifiers()));
        seen.add(method.getReturnType().getSimpleName() + " " + name
            + "(" + parameters(method.getParameterTypes()) + ")");
      } else {
        due(name + " is not private (rule 1)", Modifier.isPrivate(method.getModifiers()));
        due(name + " is private and has a public name (rule 1)", !publicNames.contains(name));
      }
    }
  }

  private static void checkClass() {
    Class<?> of = CycleBounds.class;
    due("the class is not public and final",
        Modifier.isPublic(of.getModifiers()) && Modifier.isFinal(of.getModifiers()));
    due("the class has a nested one (rule 1)", of.getDeclaredClasses().length == 0);
    due("the class extends another", of.getSuperclass() == Object.class);
    due("the class has an interface", of.getInterfaces().length == 0);
    due("the class has a package", of.getPackageName().isEmpty());
    Constructor<?>[] makers = of.getDeclaredConstructors();
    due("there is not just one constructor", makers.length == 1);
    due("the constructor is another one", Modifier.isPublic(makers[0].getModifiers())
        && parameters(makers[0].getParameterTypes()).equals("int,int"));
  }

  private static String withoutComments(String source) {
    return source.replaceAll("(?s)/\\*.*?\\*/", "").replaceAll("//[^\n]*", "");
  }

  // The text of each method, and of the constructor, by its name.
  private static Map<String, String> bodies(String code) {
    Map<String, String> found = new TreeMap<>();
    Matcher heads = Pattern.compile(
        "(?ms)^    (?:public|private)(?: static)?(?: \\w+)? (\\w+)\\([^)]*\\) \\{\n(.*?)^    }$")
        .matcher(code);
    while (heads.find()) {
      due(heads.group(1) + " is there twice", found.put(heads.group(1), heads.group(2)) == null);
    }
    return found;
  }

  private static Set<String> callsIn(String text, Set<String> names) {
    Set<String> called = new TreeSet<>();
    Matcher calls = Pattern.compile("\\b(\\w+)\\(").matcher(text);
    while (calls.find()) {
      if (names.contains(calls.group(1))) {
        called.add(calls.group(1));
      }
    }
    return called;
  }

  // How many methods are under way at once at most, this one among them.
  private static int depthOf(String name, Map<String, String> bodies, int above) {
    if (above > bodies.size()) {
      return above;
    }
    int deepest = 0;
    for (String called : callsIn(bodies.get(name), bodies.keySet())) {
      deepest = Math.max(deepest, depthOf(called, bodies, above + 1));
    }
    return 1 + deepest;
  }

  private static String argumentsAt(String text, int open) {
    int level = 1;
    int at = open;
    while (level > 0) {
      level += text.charAt(at) == '(' ? 1 : text.charAt(at) == ')' ? -1 : 0;
      at++;
    }
    return text.substring(open, at);
  }

  private static void checkCalls(String code) {
    Map<String, String> bodies = bodies(code);
    due("the methods of the text are not those of the class",
        bodies.size() == CycleBounds.class.getDeclaredMethods().length + 1);
    for (String name : bodies.keySet()) {
      int depth = depthOf(name, bodies, 0);
      due("calls from " + name + " go " + depth + " deep (rules 8 and 10)", depth <= 6);
      String body = bodies.get(name);
      Matcher calls = Pattern.compile("\\b(\\w+)\\(").matcher(body);
      while (calls.find()) {
        due(name + " calls " + calls.group(1) + ", which is no method of the class (rule 3)",
            bodies.containsKey(calls.group(1)));
        due(name + " has a call inside the arguments of " + calls.group(1) + " (rule 10)",
            callsIn(argumentsAt(body, calls.end()), bodies.keySet()).isEmpty());
      }
    }
  }

  // All loops are written as a counter against a bound, so their ends can be seen.
  private static void checkLoops(String code) {
    Matcher loops = Pattern.compile("\\b(while|do|for)\\b[^{]*").matcher(code);
    Pattern counting = Pattern.compile("for \\(int (\\w+) = [^;]+;"
        + "( [^;]+ &&)? \\1 (<|<=|>=) [^;|]+; \\1(\\+\\+|--)\\) ");
    while (loops.find()) {
      due("the end of a loop can't be seen (rule 8): " + loops.group(),
          counting.matcher(loops.group()).matches());
    }
  }

  // The class divides nowhere and names no array by a local variable, so there is nothing to look at.
  private static void checkDivisorsAndLocalArrays(String code) {
    due("the class divides (rule 7)", !code.contains("/") && !code.contains("%"));
    for (String body : bodies(code).values()) {
      due("a local variable names an array (rule 4): " + body, !body.contains("[]"));
    }
  }

  private static void checkConstants(String code) {
    Matcher constants = Pattern.compile("(?m)^.*\\bstatic\\b[^(\n]*;$").matcher(code);
    while (constants.find()) {
      due("no constant number (rule 5): " + constants.group(), constants.group()
          .matches("    (public|private) static final (int|long) [A-Z_]+ = -?\\d+;"));
    }
  }

  private static void checkText(String code) {
    Matcher words = Pattern.compile("\\b(throw|throws|try|catch|synchronized|assert|instanceof"
        + "|import|package|null|float|double|String|Math|System|Integer|Long|Arrays|Object"
        + "|class\\s+\\w+\\s+extends|enum|interface|record|var)\\b|->|::|\"").matcher(code);
    while (words.find()) {
      due("the source has '" + words.group() + "'", false);
    }
    Matcher arrays = Pattern.compile("(?m)^.*\\bnew\\b.*$").matcher(code);
    while (arrays.find()) {
      due("an array is not made in a field's initialiser: " + arrays.group(), arrays.group()
          .matches("    private final (int|long)\\[\\] \\w+ = new (int|long)\\[[A-Z_]+\\];"));
    }
    int longest = 0;
    int length = 0;
    for (String line : code.split("\n")) {
      length = line.equals("    }") ? 0 : length + (line.startsWith("        ") ? 1 : 0);
      longest = Math.max(longest, length);
    }
    due("a method has " + longest + " lines (rule 10)", longest <= 60);
  }

  public static void main(String[] args) throws Exception {
    Set<String> seen = new TreeSet<>();
    checkClass();
    checkFields(seen);
    checkMethods(seen);
    due("the public face is " + seen, seen.equals(FACE));
    String code = withoutComments(Files.readString(Path.of("src/main/java/CycleBounds.java")));
    checkText(code);
    checkDivisorsAndLocalArrays(code);
    checkConstants(code);
    checkCalls(code);
    checkLoops(code);
    System.out.println(wrong == 0 ? "language: all is as due" : wrong + " things are not as due");
    if (wrong != 0) {
      System.exit(1);
    }
  }
}
