import java.io.IOException;
import java.lang.reflect.Method;
import java.nio.file.Files;
import java.nio.file.Path;
import java.util.ArrayList;
import java.util.Collections;
import java.util.List;
import java.util.Set;
import java.util.TreeSet;
import java.util.regex.Matcher;
import java.util.regex.Pattern;
import java.util.stream.Stream;

// That the class answers what README.md shows, that no call of the face is left out there, and that the tests are named.
public final class ReadmeTest extends Checks {
  private static final Pattern CALL = Pattern.compile("rings\\.(\\w+)\\((.*?)\\);\\s+// (-?\\d+|[A-Z_]+)(:.*)?");
  private static final Pattern ARGUMENT = Pattern.compile("'(.)'|-?\\d+");
  private static final List<String> FACE = List.of("ring", "noise", "sample", "draw", "restart", "set", "ringOf", "source",
      "raw", "stored", "would", "takes", "bestPeriod", "share", "count", "undo", "type", "clearText", "fault", "play");

  private static final Set<String> shown = new TreeSet<>();
  private static JudgedBits object = null;

  public static void main(String[] args) throws IOException {
    List<String> lines = Files.readAllLines(Path.of("README.md"));
    answersAreShown(lines);
    part("README.md");
    for (String name : FACE) due("a line that calls " + name, shown.contains(name) ? 1 : 0, 1);
    errorsAreNamed(lines);
    testsAreNamed(lines);
    wayToRunThemStands(lines);
    finish();
  }

  static void answersAreShown(List<String> lines) {
    boolean inJava = false;
    for (int i = 0; i < lines.size(); i++) {
      String line = lines.get(i);
      part("README.md, line " + (i + 1));
      if (line.startsWith("```")) {
        inJava = line.equals("```java");
        object = null;
      } else if (inJava) {
        lineIsTrue(line);
      }
    }
  }

  // A line of another form would be shown, but not looked at.
  static void lineIsTrue(String line) {
    if (line.equals("JudgedBits rings = new JudgedBits();")) {
      object = new JudgedBits();
      return;
    }
    Matcher call = CALL.matcher(line);
    if (object == null || !call.matches()) {
      fault("can't be read: " + line);
      return;
    }
    String name = call.group(1);
    int[] with = arguments(call.group(2));
    if (!isOfFace(name, with.length)) {
      fault("there is no such call: " + line);
      return;
    }
    shown.add(name);
    due(object, answer(call.group(3)), name, with);
  }

  static boolean isOfFace(String name, int arguments) {
    for (Method method : JudgedBits.class.getMethods()) {
      if (method.getName().equals(name) && method.getParameterCount() == arguments) return FACE.contains(name);
    }
    return false;
  }

  static int[] arguments(String told) {
    List<Integer> with = new ArrayList<>();
    Matcher each = ARGUMENT.matcher(told);
    while (each.find()) with.add(each.group(1) != null ? each.group(1).charAt(0) : Integer.parseInt(each.group()));
    return with.stream().mapToInt(Integer::intValue).toArray();
  }

  static int answer(String told) {
    switch (told) {
      case "INVALID_ARGUMENT": return BAD;
      case "NOT_POSSIBLE": return CANNOT;
      case "LIMIT_REACHED": return FULL;
      case "NOT_FOUND": return NONE;
      default: return Integer.parseInt(told);
    }
  }

  static void errorsAreNamed(List<String> lines) {
    for (String name : List.of("INVALID_ARGUMENT", "NOT_POSSIBLE", "LIMIT_REACHED", "NOT_FOUND")) {
      due("a line that says what " + name + " is", linesThatStart(lines, "- `" + name + "`: "), 1);
    }
  }

  // Both ways: each test there is named in one line, and each that is named is there.
  static void testsAreNamed(List<String> lines) throws IOException {
    List<String> named = new ArrayList<>();
    for (String line : lines) {
      if (line.startsWith("- `") && line.contains("Test`")) {
        Matcher name = Pattern.compile("`(\\w+Test)`").matcher(line);
        while (name.find()) named.add(name.group(1));
      }
    }
    Collections.sort(named);
    List<String> there = new ArrayList<>();
    try (Stream<Path> files = Files.list(Path.of("src/test/java"))) {
      files.forEach(file -> there.add(file.getFileName().toString().replace(".java", "")));
    }
    Collections.sort(there);
    due("the tests that are named, " + named + ", are those there, " + there, named.equals(there) ? 1 : 0, 1);
  }

  static void wayToRunThemStands(List<String> lines) throws IOException {
    due("a line that says how to run the tests", linesThatStart(lines, "    bash .ci/run"), 1);
    due(".ci/run can be run", Files.isExecutable(Path.of(".ci/run")) ? 1 : 0, 1);
    List<String> script = Files.readAllLines(Path.of(".ci/run"));
    for (String folder : List.of("../shared/tests", "src/test/java")) {
      due("a line of .ci/run that runs " + folder, linesThatStart(script, "run_folder " + folder), 1);
    }
  }

  static int linesThatStart(List<String> lines, String start) {
    int many = 0;
    for (String line : lines) if (line.startsWith(start)) many++;
    return many;
  }
}
