import java.lang.reflect.Method;
import java.lang.reflect.Modifier;
import java.nio.file.Files;
import java.nio.file.Path;
import java.util.regex.Matcher;
import java.util.regex.Pattern;
import javax.tools.JavaCompiler;
import javax.tools.ToolProvider;

/** README.md's example: each call answers what stands behind it, and no call of the face is left out. */
public final class ReadmeTest {
  private static final Checks CHECKS = new Checks();
  private static final Pattern EXAMPLE = Pattern.compile("(?s)```java\n(.*?)```");
  private static final Pattern TOLD =
      Pattern.compile("(?:int (\\w+) = )?(x\\.\\w+\\(.*\\));\\s+// (-?\\d+|true|false): .+");

  public static void main(String[] args) throws Exception {
    Path root = Path.of(System.getProperty("program")).resolve("../../../..").normalize();
    Matcher example = EXAMPLE.matcher(Files.readString(root.resolve("README.md")));
    boolean stands = example.find();
    CHECKS.due("README.md has an example", stands, true);
    if (stands) {
      lookForEveryCall(example.group(1));
      runExample(turnedIntoClass(example.group(1)));
    }
    CHECKS.end();
  }

  private static void lookForEveryCall(String example) {
    for (Method m : LicenceRules.class.getDeclaredMethods()) {
      if (Modifier.isPublic(m.getModifiers())) {
        CHECKS.due("has " + m.getName(), example.contains("x." + m.getName() + "("), true);
      }
    }
  }

  private static String turnedIntoClass(String example) {
    StringBuilder source = new StringBuilder("final class ReadmeExample {\n");
    source.append("static void run(Checks checks) {\n");
    for (String line : example.split("\n")) {
      source.append(turnedIntoCheck(line)).append('\n');
    }
    return source.append("}\n}\n").toString();
  }

  private static String turnedIntoCheck(String line) {
    Matcher told = TOLD.matcher(line);
    if (!told.matches()) {
      // Only calls in a loop (they are set in) and what calls no method may tell no answer.
      boolean call = line.startsWith("x.") || line.startsWith("int ");
      CHECKS.due("an answer is told: " + line, call, false);
      return line;
    }
    String name = told.group(1);
    String check = "checks.due(\"" + told.group(2).replace("\"", "\\\"") + "\", ";
    return name == null
        ? check + told.group(2) + ", " + told.group(3) + ");"
        : "int " + name + " = " + told.group(2) + "; " + check + name + ", " + told.group(3) + ");";
  }

  private static void runExample(String source) throws Exception {
    // Beside this test's own classes, so that the example sees Checks and LicenceRules.
    Path classes = Path.of(ReadmeTest.class.getProtectionDomain().getCodeSource().getLocation().toURI());
    Path file = classes.resolve("ReadmeExample.java");
    Files.writeString(file, source);
    JavaCompiler javac = ToolProvider.getSystemJavaCompiler();
    int refused = javac == null ? -1 : javac.run(null, null, null,
        "-cp", classes.toString(), "-d", classes.toString(), file.toString());
    CHECKS.due("the example is compiled", refused, 0);
    if (refused == 0) {
      Method run = Class.forName("ReadmeExample").getDeclaredMethod("run", Checks.class);
      run.invoke(null, CHECKS);
    }
  }
}
