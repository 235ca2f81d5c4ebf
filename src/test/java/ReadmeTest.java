import java.io.IOException;
import java.lang.reflect.Method;
import java.lang.reflect.Modifier;
import java.net.URL;
import java.net.URLClassLoader;
import java.nio.file.Files;
import java.nio.file.Path;
import java.util.ArrayList;
import java.util.List;
import java.util.regex.Matcher;
import java.util.regex.Pattern;
import java.util.stream.Stream;
import javax.tools.ToolProvider;

/** README.md's lines of use, compiled: each answers as it says, and none of the face's calls is missing. */
public final class ReadmeTest {
  private static final Pattern BLOCK = Pattern.compile("(?s)```java\n(.*?)```");
  private static final Pattern ANSWERED = Pattern.compile("(x\\..*\\));\\s*// (-?\\d+|true|false)(:.*)?");
  private static int wrong = 0;
  private static int lines = 0;

  public static void main(String[] args) throws Exception {
    String page = Files.readString(Path.of("README.md"));
    List<String> blocks = new ArrayList<>();
    Matcher m = BLOCK.matcher(page);
    while (m.find()) blocks.add(m.group(1));
    must(blocks.size() == 2, "how texts are sent, and the lines of use");
    if (wrong == 0) {
      useEveryCall(blocks.get(0) + blocks.get(1));
      runLines(blocks.get(0), blocks.get(1));
    }
    nameEveryTest(page);
    System.out.println(lines + " lines of README.md, " + wrong + " wrong");
    if (wrong != 0) System.exit(1);
  }

  private static void must(boolean is, String what) {
    if (is) return;
    wrong++;
    System.out.println("not so: " + what);
  }

  private static void useEveryCall(String code) {
    for (Method m : TraceMachines.class.getDeclaredMethods()) {
      if (Modifier.isPublic(m.getModifiers())) must(code.contains("x." + m.getName() + "("), m.getName() + " is used");
    }
  }

  private static void nameEveryTest(String page) throws IOException {
    must(page.contains("    .ci/run\n"), ".ci/run is told");
    try (Stream<Path> files = Files.list(Path.of("src/test/java"))) {
      for (Path file : files.toList()) {
        String name = file.getFileName().toString().replace(".java", "");
        must(page.contains("`" + name + "`"), name + " is told");
      }
    }
  }

  private static void runLines(String sending, String use) throws Exception {
    Path folder = Files.createTempDirectory("readme");
    Path file = folder.resolve("ReadmeUse.java");
    Files.writeString(file, classOf(sending, use));
    String path = System.getProperty("java.class.path");
    int code = ToolProvider.getSystemJavaCompiler()
        .run(null, null, null, "-proc:none", "-cp", path, "-d", folder.toString(), file.toString());
    must(code == 0, "the lines of use compile");
    if (code == 0) {
      try (URLClassLoader loader = new URLClassLoader(new URL[] {folder.toUri().toURL()})) {
        wrong += (int) loader.loadClass("ReadmeUse").getMethod("wrong").invoke(null);
      }
    }
    try (Stream<Path> left = Files.list(folder)) {
      for (Path one : left.toList()) Files.delete(one);
    }
    Files.delete(folder);
  }

  private static String classOf(String sending, String use) {
    StringBuilder b = new StringBuilder("public final class ReadmeUse {\n").append(sending)
        .append("static int due(String call, Object got, Object want) {\n")
        .append("if (got.equals(want)) return 0;\n")
        .append("System.out.println(call + \" answered \" + got + \", README.md says \" + want);\nreturn 1;\n}\n")
        .append("public static int wrong() {\nint wrong = 0;\n");
    for (String line : use.split("\n")) {
      Matcher m = ANSWERED.matcher(line);
      boolean answered = m.matches();
      must(answered || !line.startsWith("x."), "an answer is told: " + line);
      if (answered) {
        lines++;
        b.append("wrong += due(\"").append(m.group(1)).append("\", ").append(m.group(1)).append(", ").append(m.group(2))
            .append(");\n");
      } else {
        b.append(line).append('\n');
      }
    }
    return b.append("return wrong;\n}\n}\n").toString();
  }
}
