import java.io.IOException;
import java.lang.reflect.InvocationTargetException;
import java.lang.reflect.Method;
import java.net.URL;
import java.net.URLClassLoader;
import java.nio.file.Files;
import java.nio.file.Path;
import java.util.ArrayList;
import java.util.Comparator;
import java.util.HashSet;
import java.util.List;
import java.util.Set;
import java.util.concurrent.ExecutionException;
import java.util.concurrent.ExecutorService;
import java.util.concurrent.Executors;
import java.util.concurrent.Future;
import java.util.concurrent.TimeUnit;
import java.util.concurrent.TimeoutException;
import java.util.stream.Stream;
import javax.tools.JavaCompiler;
import javax.tools.ToolProvider;

/** For each sentence copies of the program that break it: the sentence's own check must fail with each of them. */
public final class BrokenCopiesTest {
  private static final Path SOURCE = Path.of("src/main/java/TraceMachines.java");
  private static final JavaCompiler COMPILER = ToolProvider.getSystemJavaCompiler();
  private static final int SECONDS = 60;
  private static final int WORKERS = 4;

  private final String source = Files.readString(SOURCE);
  private final URL tests = BrokenCopiesTest.class.getProtectionDomain().getCodeSource().getLocation();
  private final Path room = Files.createTempDirectory("broken");

  private BrokenCopiesTest() throws IOException {}

  public static void main(String[] args) throws Exception {
    System.exit(new BrokenCopiesTest().go() ? 0 : 1);
  }

  private boolean go() throws Exception {
    List<BrokenCopies.Copy> copies = new BrokenCopies().all();
    ExecutorService workers = Executors.newFixedThreadPool(WORKERS, BrokenCopiesTest::worker);
    List<Future<String>> answers = new ArrayList<>();
    for (BrokenCopies.Copy copy : copies) {
      Path folder = room.resolve("copy" + answers.size());
      answers.add(workers.submit(() -> wrongOf(copy, folder)));
    }
    int wrong = withoutCopies(copies);
    for (int i = 0; i < answers.size(); i++) wrong += tell(copies.get(i), answers.get(i));
    System.out.println(copies.size() + " broken copies, " + wrong + " wrong");
    clear();
    return wrong == 0;
  }

  /** A broken copy that does not end must not keep the test from its end. */
  private static Thread worker(Runnable task) {
    Thread thread = new Thread(null, task, "copies", 1 << 20);
    thread.setDaemon(true);
    return thread;
  }

  private static int tell(BrokenCopies.Copy copy, Future<String> answer) throws InterruptedException {
    String wrong;
    try {
      wrong = answer.get(SECONDS, TimeUnit.SECONDS);
    } catch (TimeoutException e) {
      wrong = "does not end";
    } catch (ExecutionException e) {
      wrong = e.getCause().toString();
    }
    if (wrong == null) return 0;
    System.out.println(wrong + ": " + copy);
    return 1;
  }

  private static int withoutCopies(List<BrokenCopies.Copy> copies) {
    Set<String> names = new HashSet<>();
    for (BrokenCopies.Copy copy : copies) names.add(nameOf(copy));
    int wrong = 0;
    for (Sentences.Sentence s : SentencesTest.all()) {
      if (!names.contains(s.name())) {
        wrong++;
        System.out.println("no broken copy: " + s.name());
      }
    }
    return wrong;
  }

  /** The sentence's whole name; null: none, or more than one, begins so. */
  private static String nameOf(BrokenCopies.Copy copy) {
    String name = null;
    for (Sentences.Sentence s : SentencesTest.all()) {
      if (!s.place().equals(copy.place()) || !s.quote().startsWith(copy.begins())) continue;
      if (name != null) return null;
      name = s.name();
    }
    return name;
  }

  /** Why a copy is not found to be broken by its sentence's check; null: it is. */
  private String wrongOf(BrokenCopies.Copy copy, Path folder) throws Exception {
    String name = nameOf(copy);
    if (name == null) return "not one sentence";
    int at = source.indexOf(copy.old());
    if (at < 0) return "not in the source (mend BrokenCopies)";
    if (source.indexOf(copy.old(), at + 1) >= 0) return "more than once in the source (mend BrokenCopies)";
    String broken = source.substring(0, at) + copy.put() + source.substring(at + copy.old().length());
    if (!compile(broken, folder)) return "does not compile";
    return faultOf(name, folder) == null ? "NOT FOUND" : null;
  }

  private static boolean compile(String text, Path folder) throws IOException {
    Files.createDirectories(folder);
    Path file = folder.resolve("TraceMachines.java");
    Files.writeString(file, text);
    String[] options = {"-proc:none", "-nowarn", "-d", folder.toString(), file.toString()};
    return COMPILER.run(null, null, null, options) == 0;
  }

  /** The test classes are loaded anew, over the broken copy. */
  private String faultOf(String name, Path folder) throws Exception {
    URL[] places = {folder.toUri().toURL(), tests};
    try (URLClassLoader loader = new URLClassLoader(places, ClassLoader.getPlatformClassLoader())) {
      Method faultOf = loader.loadClass("SentencesTest").getDeclaredMethod("faultOf", String.class);
      faultOf.setAccessible(true);
      return (String) faultOf.invoke(null, name);
    } catch (InvocationTargetException e) {
      return e.getCause().toString();
    }
  }

  private void clear() throws IOException {
    try (Stream<Path> all = Files.walk(room)) {
      for (Path path : all.sorted(Comparator.reverseOrder()).toList()) Files.deleteIfExists(path);
    }
  }
}
