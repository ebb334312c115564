import java.lang.reflect.Field;
import java.lang.reflect.Method;
import java.lang.reflect.Modifier;
import java.nio.file.Files;
import java.nio.file.Path;
import java.util.HashMap;
import java.util.Map;
import java.util.Set;
import java.util.TreeSet;
import java.util.regex.Matcher;
import java.util.regex.Pattern;

// Does the examples of README.md line by line: each call must answer what its comment begins with.
// It is run from the project's directory.
public final class ReadmeTests {
  private static final Pattern BLOCK = Pattern.compile("(?s)```java\n(.*?)```");
  private static final Pattern MAKING =
      Pattern.compile("CycleBounds (\\w+) = new CycleBounds\\((-?\\d+), (-?\\d+)\\);");
  private static final Pattern CALL =
      Pattern.compile("(\\w+)\\.(\\w+)\\(([-\\d, ]*)\\);\\s+// (-?\\d+|[A-Z_]+)\\b.*");

  private static final Map<String, CycleBounds> objects = new HashMap<>();
  private static final Set<String> used = new TreeSet<>();
  private static int wrong = 0;

  private static void due(String what, boolean holds) {
    if (!holds) {
      wrong++;
      System.out.println(what);
    }
  }

  private static int call(CycleBounds x, String name, String arguments) throws Exception {
    String[] texts = arguments.isEmpty() ? new String[0] : arguments.split(", ");
    Class<?>[] types = new Class<?>[texts.length];
    Object[] values = new Object[texts.length];
    for (int i = 0; i < texts.length; i++) {
      types[i] = int.class;
      values[i] = Integer.parseInt(texts[i]);
    }
    return (Integer) CycleBounds.class.getMethod(name, types).invoke(x, values);
  }

  private static int value(String told) throws Exception {
    return Character.isLetter(told.charAt(0))
        ? CycleBounds.class.getField(told).getInt(null) : Integer.parseInt(told);
  }

  private static void perform(String line) throws Exception {
    Matcher making = MAKING.matcher(line);
    Matcher call = CALL.matcher(line);
    if (making.matches()) {
      objects.put(making.group(1), new CycleBounds(
          Integer.parseInt(making.group(2)), Integer.parseInt(making.group(3))));
    } else if (call.matches()) {
      int answer = call(objects.get(call.group(1)), call.group(2), call.group(3));
      used.add(call.group(2));
      used.add(call.group(4));
      due("README.md: " + line + " answered " + answer, answer == value(call.group(4)));
    } else {
      due("README.md has an example that can't be done: " + line, line.isEmpty());
    }
  }

  private static void performAll(String text) throws Exception {
    Matcher blocks = BLOCK.matcher(text);
    while (blocks.find()) {
      for (String line : blocks.group(1).split("\n")) {
        perform(line);
      }
    }
  }

  private static void tellsOfEachMember(String text) throws Exception {
    for (Method method : CycleBounds.class.getDeclaredMethods()) {
      if (Modifier.isPublic(method.getModifiers())) {
        String name = method.getName();
        due("README.md has no example of " + name, used.contains(name));
        due("README.md's table lacks " + name,
            Pattern.compile("(?m)^\\| `" + name + "\\(").matcher(text).find());
      }
    }
    for (Field field : CycleBounds.class.getFields()) {
      String row = "| `" + field.getName() + "` (" + field.getInt(null) + ")";
      due("README.md lacks the row " + row, text.contains("\n" + row));
    }
    for (String code : new String[] {"BAD_ARG", "TOO_FEW", "NONE", "TOO_MANY"}) {
      due("README.md has no example of " + code, used.contains(code));
    }
  }

  private static void tellsHowTestsAreRun(String text) throws Exception {
    due("README.md does not tell of .ci/run", text.contains("\n    .ci/run\n"));
    try (var files = Files.newDirectoryStream(Path.of("src/test/java"))) {
      for (Path file : files) {
        due("README.md does not tell of " + file, text.contains("`" + file.getFileName() + "`"));
      }
    }
  }

  public static void main(String[] args) throws Exception {
    String text = Files.readString(Path.of("README.md"));
    performAll(text);
    tellsOfEachMember(text);
    tellsHowTestsAreRun(text);
    System.out.println(wrong == 0 ? "readme: all is as due" : wrong + " things are not as due");
    if (wrong != 0) {
      System.exit(1);
    }
  }
}
