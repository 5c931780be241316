import java.io.IOException;
import java.lang.reflect.Method;
import java.lang.reflect.Modifier;
import java.net.URI;
import java.net.URL;
import java.net.URLClassLoader;
import java.nio.file.Files;
import java.nio.file.Path;
import java.util.List;
import java.util.regex.Matcher;
import java.util.regex.Pattern;
import javax.tools.JavaCompiler;
import javax.tools.JavaFileObject;
import javax.tools.SimpleJavaFileObject;
import javax.tools.ToolProvider;

/**
 * README.md tells how to use the class: its example is compiled and run, with each answer that it
 * tells behind a call as the one that is due, and each call and constant of the face is named in it.
 */
public final class ReadmeTests {
  private static final Pattern BLOCK = Pattern.compile("```java\n(.*?)```", Pattern.DOTALL);
  private static final Pattern TOLD = Pattern.compile("(.*\\S);\\s*// (true|false|-?\\d+|[A-Z]+)(:.*)?");
  private static final int FEWEST_TOLD = 30;
  private static int wrong = 0;
  private static int told = 0;

  private static void say(String what) {
    wrong++;
    System.out.println(what);
  }

  public static void due(String call, Object got, Object want) {
    told++;
    if (!got.equals(want)) {
      say("README.md: " + call + " answered " + got + ", told is " + want);
    }
  }

  private static String example(String readme) {
    StringBuilder body = new StringBuilder();
    Matcher blocks = BLOCK.matcher(readme);
    while (blocks.find()) {
      blocks.group(1).lines().forEach(line -> body.append(statement(line)).append('\n'));
    }
    return body.toString();
  }

  private static String statement(String line) {
    Matcher told = TOLD.matcher(line);
    if (!told.matches()) {
      return line;
    }
    String want = Character.isUpperCase(told.group(2).charAt(0)) ? "SealedLedger." + told.group(2) : told.group(2);
    return "ReadmeTests.due(\"" + told.group(1) + "\", " + told.group(1) + ", " + want + ");";
  }

  private static boolean compiles(String body, Path folder) {
    String text = "public class Example { public static void main(String[] args) {\n" + body + "} }\n";
    JavaFileObject file =
        new SimpleJavaFileObject(URI.create("string:///Example.java"), JavaFileObject.Kind.SOURCE) {
          @Override
          public CharSequence getCharContent(boolean ignoreEncodingErrors) {
            return text;
          }
        };
    JavaCompiler compiler = ToolProvider.getSystemJavaCompiler();
    List<String> options = List.of("-proc:none", "-d", folder.toString(), "-cp", System.getProperty("java.class.path"));
    return compiler.getTask(null, null, null, options, null, List.of(file)).call();
  }

  private static void run(Path folder) throws IOException, ReflectiveOperationException {
    try (URLClassLoader loader = new URLClassLoader(new URL[] {folder.toUri().toURL()}, ReadmeTests.class.getClassLoader())) {
      loader.loadClass("Example").getMethod("main", String[].class).invoke(null, (Object) new String[0]);
    }
  }

  private static void checkExample(String readme) throws IOException, ReflectiveOperationException {
    Path folder = Files.createTempDirectory("readme");
    try {
      if (compiles(example(readme), folder)) {
        run(folder);
      } else {
        say("README.md: the example does not compile");
      }
    } finally {
      Files.deleteIfExists(folder.resolve("Example.class"));
      Files.deleteIfExists(folder);
    }
    if (told < FEWEST_TOLD) {
      say("README.md: only " + told + " answers are told");
    }
  }

  private static void checkNames(String readme) {
    for (Method method : SealedLedger.class.getDeclaredMethods()) {
      if (Modifier.isPublic(method.getModifiers()) && !readme.contains("`" + method.getName() + "(")) {
        say("README.md: the table has no " + method.getName());
      }
    }
    for (String constant : List.of("NONE", "OFF", "UNEVEN", "KEY", "POOR", "FULL")) {
      if (!readme.contains("`" + constant + "`")) {
        say("README.md: " + constant + " is not explained");
      }
    }
  }

  private static void checkTests(String readme) throws IOException {
    try (var files = Files.list(Path.of("src/test/java"))) {
      for (Path file : files.sorted().toList()) {
        String name = file.getFileName().toString().replace(".java", "");
        if (!readme.contains("- `" + name + "`: ")) {
          say("README.md: the list of tests has no " + name);
        }
      }
    }
  }

  public static void main(String[] args) throws IOException, ReflectiveOperationException {
    String readme = Files.readString(Path.of("README.md"));
    checkExample(readme);
    checkNames(readme);
    checkTests(readme);
    System.out.println(wrong == 0 ? told + " answers are as README.md tells" : wrong + " things of README.md are not so");
    if (wrong != 0) System.exit(1);
  }
}
