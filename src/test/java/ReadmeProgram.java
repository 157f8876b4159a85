import java.io.IOException;
import java.lang.reflect.Method;
import java.lang.reflect.Modifier;
import java.nio.file.Files;
import java.nio.file.Path;
import java.util.ArrayList;
import java.util.List;
import java.util.Map;
import java.util.Set;
import java.util.TreeMap;
import java.util.TreeSet;
import java.util.regex.Matcher;
import java.util.regex.Pattern;

/**
 * Writes ReadmeTest.java out of README.md: each block of Java as it stands, so that it must
 * compile, and each call that it shows with the answer that it shows, asked of the class and of
 * the model, so that it must be the document's answer too. A line that shows no answer, and a
 * method that no line shows, are refused here.
 */
public final class ReadmeProgram {
  private static final Pattern NEW =
      Pattern.compile("CosetTables x = new CosetTables\\(-?\\d+, -?\\d+\\);( +//.*)?");
  private static final Pattern CALL =
      Pattern.compile("(x\\.(\\w+)\\([^()]*\\));(?: +// ?(.*))?");
  private static final Pattern NUMBER = Pattern.compile("(-?\\d+L?|0x[0-9A-F]+L?)(:.*)?");
  private static final Pattern TRUTH = Pattern.compile("(true|false)(:.*)?");
  private static final Pattern THROWN =
      Pattern.compile("throws (ArrayIndexOutOfBounds|IllegalArgument)Exception(:.*)?");

  private final Map<String, Class<?>> face = new TreeMap<>();
  private final Set<String> shown = new TreeSet<>();
  private final List<String> refused = new ArrayList<>();
  private final StringBuilder text = new StringBuilder();
  private int methods;

  private ReadmeProgram() {
    for (Method method : CosetTables.class.getDeclaredMethods()) {
      if (Modifier.isPublic(method.getModifiers())) {
        face.put(method.getName(), method.getReturnType());
      }
    }
  }

  /** The lines of each block, with their numbers in README.md. */
  private static List<TreeMap<Integer, String>> blocks(List<String> lines) {
    List<TreeMap<Integer, String>> blocks = new ArrayList<>();
    boolean inside = false;
    for (int i = 0; i < lines.size(); i++) {
      String line = lines.get(i);
      if (line.equals("```java")) {
        blocks.add(new TreeMap<>());
        inside = true;
      } else if (line.equals("```")) {
        inside = false;
      } else if (inside && !line.isBlank()) {
        blocks.get(blocks.size() - 1).put(i + 1, line);
      }
    }
    return blocks;
  }

  private String check(int number, String line) {
    if (NEW.matcher(line).matches()) {
      return line;
    }
    Matcher call = CALL.matcher(line);
    if (!call.matches() || !face.containsKey(call.group(2))) {
      refused.add("line " + number + " shows no call: " + line);
      return "";
    }
    shown.add(call.group(2));
    String answer = call.group(3) == null ? "" : call.group(3);
    String asked = checkOf("\"README.md, line " + number + ": " + call.group(1) + "\"",
        call.group(1), face.get(call.group(2)), answer);
    if (asked.isEmpty()) {
      refused.add("line " + number + " shows no answer that the call can have: " + line);
    }
    return asked;
  }

  private static String checkOf(String what, String call, Class<?> type, String answer) {
    Matcher thrown = THROWN.matcher(answer);
    if (thrown.matches()) {
      String kind = thrown.group(1).equals("IllegalArgument") ? "illegal" : "outOfBounds";
      return "CHECK." + kind + "(" + what + ", () -> " + call + ");";
    }
    if (type == void.class) {
      return call + ";";
    }
    Matcher due = (type == boolean.class ? TRUTH : NUMBER).matcher(answer);
    if (!due.matches()) {
      return "";
    }
    if (type == boolean.class) {
      return "CHECK." + (due.group(1).equals("true") ? "yes" : "no") + "(" + what + ", " + call
          + ");";
    }
    return "CHECK.same(" + what + ", " + call + ", " + due.group(1) + ");";
  }

  private void method(String name, Iterable<String> lines) {
    text.append("\n  static void ").append(name).append("() {\n");
    for (String line : lines) {
      text.append("    ").append(line).append('\n');
    }
    text.append("  }\n");
  }

  private void writeBlock(TreeMap<Integer, String> block) {
    methods++;
    List<String> asked = new ArrayList<>();
    List<String> askedOfModel = new ArrayList<>();
    for (Map.Entry<Integer, String> line : block.entrySet()) {
      String check = check(line.getKey(), line.getValue());
      asked.add(check);
      askedOfModel.add(check.replace("CosetTables", "Model").replace("README.md", "the model"));
    }
    method("asItStands" + methods, block.values());
    method("asked" + methods, asked);
    method("askedOfModel" + methods, askedOfModel);
  }

  private String program(List<String> lines) {
    text.append("public final class ReadmeTest {\n");
    text.append("  private static final Check CHECK = new Check();\n");
    blocks(lines).forEach(this::writeBlock);
    text.append("\n  public static void main(String[] args) {\n");
    for (int i = 1; i <= methods; i++) {
      text.append("    asked" + i + "();\n    askedOfModel" + i + "();\n");
    }
    text.append("    CHECK.end();\n  }\n}\n");
    for (String name : face.keySet()) {
      if (!shown.contains(name)) {
        refused.add(name + " is not shown");
      }
    }
    return text.toString();
  }

  /** The first argument is README.md, the second the file to write. */
  public static void main(String[] args) throws IOException {
    ReadmeProgram writer = new ReadmeProgram();
    String program = writer.program(Files.readAllLines(Path.of(args[0])));
    writer.refused.forEach(line -> System.out.println("README.md: " + line));
    if (!writer.refused.isEmpty()) {
      System.exit(1);
    }
    Files.writeString(Path.of(args[1]), program);
  }
}
