import java.lang.reflect.Constructor;
import java.lang.reflect.Field;
import java.lang.reflect.Method;
import java.lang.reflect.Modifier;
import java.nio.file.Files;
import java.nio.file.Path;
import java.util.Set;
import java.util.TreeSet;
import java.util.regex.Matcher;
import java.util.regex.Pattern;

// The public face of the document, and the rules of LANGUAGE.md that can be seen in the compiled
// class or in the source text. It is run from the project's directory.
public final class LanguageTests {
  private static final Set<String> FACE = Set.of(
      "int BAD_ARG", "int FULL", "int TOO_FEW", "int NONE", "int TOO_MANY",
      "int access(int)", "int work(int)", "int join(int)", "int loop(int,int)", "int depth()",
      "int discard()", "int program()", "int paths()", "int length()", "int worst()", "int best()",
      "int worstRuns()", "int choice(int)", "int bound()", "int sure(int)", "int misses(int)",
      "int hits(int)", "int fewest(int)", "int ends()", "int holds(int)");
  private static final Set<String> TYPES =
      Set.of("int", "long", "short", "byte", "char", "boolean");

  private static int wrong = 0;

  private static void due(String what, boolean holds) {
    if (!holds) {
      wrong++;
      System.out.println(what);
    }
  }

  private static boolean isAllowed(Class<?> type) {
    Class<?> plain = type.isArray() ? type.getComponentType() : type;
    return TYPES.contains(plain.getName());
  }

  private static String parameters(Class<?>[] types) {
    StringBuilder text = new StringBuilder();
    for (Class<?> type : types) {
      text.append(text.length() == 0 ? "" : ",").append(type.getSimpleName());
    }
    return text.toString();
  }

  private static void checkFields(Set<String> seen) {
    int count = 0;
    for (Field field : CycleBounds.class.getDeclaredFields()) {
      String name = field.getName();
      boolean isStatic = Modifier.isStatic(field.getModifiers());
      due(name + " is of a type that rule 2 forbids", isAllowed(field.getType()));
      if (isStatic) {
        due(name + " is static and no constant number (rule 5)",
            Modifier.isFinal(field.getModifiers()) && !field.getType().isArray());
      } else {
        count++;
      }
      if (Modifier.isPublic(field.getModifiers())) {
        due(name + " is public and no constant", isStatic);
        seen.add(field.getType().getSimpleName() + " " + name);
      } else {
        due(name + " is not private (rule 1)", Modifier.isPrivate(field.getModifiers()));
      }
    }
    due(count + " fields are more than forty (rule 10)", count <= 40);
  }

  private static void checkMethods(Set<String> seen) {
    Set<String> publicNames = new TreeSet<>();
    for (String member : FACE) {
      publicNames.add(member.replaceAll("int ([A-Za-z_]+).*", "$1"));
    }
    for (Method method : CycleBounds.class.getDeclaredMethods()) {
      String name = method.getName();
      due(name + " has more than seven parameters (rule 10)", method.getParameterCount() <= 7);
      for (Class<?> type : method.getParameterTypes()) {
        due(name + " takes a type that rule 2 forbids", isAllowed(type));
      }
      due(name + " answers an array (rule 4)", !method.getReturnType().isArray());
      if (Modifier.isPublic(method.getModifiers())) {
        due(name + " is public and static", !Modifier.isStatic(method.getModifiers()));
        seen.add(method.getReturnType().getSimpleName() + " " + name
            + "(" + parameters(method.getParameterTypes()) + ")");
      } else {
        due(name + " is not private (rule 1)", Modifier.isPrivate(method.getModifiers()));
        due(name + " is private and has a public name (rule 1)", !publicNames.contains(name));
      }
    }
  }

  private static void checkClass() {
    Class<?> of = CycleBounds.class;
    due("the class is not public and final",
        Modifier.isPublic(of.getModifiers()) && Modifier.isFinal(of.getModifiers()));
    due("the class has a nested one (rule 1)", of.getDeclaredClasses().length == 0);
    due("the class extends another", of.getSuperclass() == Object.class);
    due("the class has an interface", of.getInterfaces().length == 0);
    due("the class has a package", of.getPackageName().isEmpty());
    Constructor<?>[] makers = of.getDeclaredConstructors();
    due("there is not just one constructor", makers.length == 1);
    due("the constructor is another one", Modifier.isPublic(makers[0].getModifiers())
        && parameters(makers[0].getParameterTypes()).equals("int,int"));
  }

  private static void checkText(String source) {
    String code = source.replaceAll("(?s)/\\*.*?\\*/", "").replaceAll("//[^\n]*", "");
    Matcher words = Pattern.compile("\\b(throw|throws|try|catch|synchronized|assert|instanceof"
        + "|import|package|null|float|double|String|Math|System|Integer|Long|Arrays|Object"
        + "|class\\s+\\w+\\s+extends|enum|interface|record|var)\\b|->|::|\"").matcher(code);
    while (words.find()) {
      due("the source has '" + words.group() + "'", false);
    }
    Matcher arrays = Pattern.compile("(?m)^.*\\bnew\\b.*$").matcher(code);
    while (arrays.find()) {
      due("an array is not made in a field's initialiser: " + arrays.group(), arrays.group()
          .matches("    private final (int|long)\\[\\] \\w+ = new (int|long)\\[[A-Z_]+\\];"));
    }
    int longest = 0;
    int length = 0;
    for (String line : code.split("\n")) {
      length = line.equals("    }") ? 0 : length + (line.startsWith("        ") ? 1 : 0);
      longest = Math.max(longest, length);
    }
    due("a method has " + longest + " lines (rule 10)", longest <= 60);
  }

  public static void main(String[] args) throws Exception {
    Set<String> seen = new TreeSet<>();
    checkClass();
    checkFields(seen);
    checkMethods(seen);
    due("the public face is " + seen, seen.equals(FACE));
    checkText(Files.readString(Path.of("src/main/java/CycleBounds.java")));
    System.out.println(wrong == 0 ? "language: all is as due" : wrong + " things are not as due");
    if (wrong != 0) {
      System.exit(1);
    }
  }
}
