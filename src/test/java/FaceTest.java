import java.io.IOException;
import java.lang.reflect.Constructor;
import java.lang.reflect.Field;
import java.lang.reflect.Method;
import java.lang.reflect.Modifier;
import java.nio.file.Files;
import java.nio.file.Path;
import java.util.Arrays;
import java.util.HashSet;
import java.util.List;
import java.util.Set;
import java.util.TreeSet;
import java.util.regex.Matcher;
import java.util.regex.Pattern;

/** The public face, and those rules of LANGUAGE.md that can be seen in the classes or in the source. */
public final class FaceTest {
  private static final Path SOURCE = Path.of("src/main/java/TraceMachines.java");
  private static final Path DOCUMENT = Path.of("../shared/DOC.md");
  private static final String[] FACE = {"int sign(int)", "boolean end(int)", "int traces()", "int drop(int)",
      "int depth(int)", "int margin(int)", "int undo()", "int call(int,int,int)", "int state(int,int)",
      "int edge(int,int)", "int vague(int)", "int run(boolean)", "int ran(int)", "int cover(int)", "int ways(int)",
      "int words(int)", "int apart(int,int,int)", "int walk(int,int)", "int rule(int,int,int,int)",
      "int rules(int,int,int)", "int odd(int,int)", "int oddest(int)", "int held(int,int,boolean)", "int fit(int,int)",
      "int best(int)", "boolean keep(int)", "boolean again(int)", "int count(int)"};
  private static int wrong = 0;

  public static void main(String[] args) throws IOException {
    face();
    fields();
    inside();
    source();
    faceOfDocument();
    System.out.println("the face and the source: " + wrong + " wrong");
    if (wrong != 0) System.exit(1);
  }

  private static void must(boolean is, String what) {
    if (!is) {
      wrong++;
      System.out.println("not so: " + what);
    }
  }

  private static String told(Method m) {
    StringBuilder b = new StringBuilder(m.getReturnType().getSimpleName()).append(' ').append(m.getName()).append('(');
    for (Class<?> p : m.getParameterTypes()) b.append(b.charAt(b.length() - 1) == '(' ? "" : ",").append(p.getSimpleName());
    return b.append(')').toString();
  }

  private static void face() {
    Class<?> c = TraceMachines.class;
    must(Modifier.isPublic(c.getModifiers()) && Modifier.isFinal(c.getModifiers()), "public and final");
    Set<String> found = new TreeSet<>();
    for (Method m : c.getDeclaredMethods()) {
      if (Modifier.isPrivate(m.getModifiers())) continue;
      must(Modifier.isPublic(m.getModifiers()), m + " is public or private");
      found.add(told(m));
    }
    must(found.equals(new TreeSet<>(Arrays.asList(FACE))), "the methods of the face: " + found);
    Constructor<?>[] made = c.getDeclaredConstructors();
    must(made.length == 1 && Modifier.isPublic(made[0].getModifiers()) && made[0].getParameterCount() == 0,
        "one constructor");
  }

  private static void fields() {
    for (Field f : TraceMachines.class.getDeclaredFields()) {
      boolean isNone = f.getName().equals("NONE");
      must(isNone == Modifier.isPublic(f.getModifiers()), f + " is private, but for NONE");
      must(isNone || Modifier.isPrivate(f.getModifiers()), f + " is private");
      must(!Modifier.isStatic(f.getModifiers()) || Modifier.isFinal(f.getModifiers()), f + " is final, if static");
    }
  }

  private static void inside() {
    Set<String> names = new HashSet<>();
    for (String s : FACE) names.add(s.substring(s.indexOf(' ') + 1, s.indexOf('(')));
    Class<?>[] classes = TraceMachines.class.getDeclaredClasses();
    must(classes.length <= 11, "twelve classes at most");
    for (Class<?> c : classes) {
      must(Modifier.isStatic(c.getModifiers()), c + " is static");
      must(!Modifier.isPublic(c.getModifiers()) && !Modifier.isProtected(c.getModifiers()), c + " is not visible");
      for (Method m : c.getDeclaredMethods()) {
        must(!names.contains(m.getName()), m + " bears no public one's name");
        must(m.getParameterCount() <= 7, m + " has seven parameters at most");
      }
      must(ownFields(c) <= 20, c + " has twenty fields at most");
    }
    must(ownFields(TraceMachines.class) <= 20, "twenty fields at most");
  }

  private static long ownFields(Class<?> c) {
    return Arrays.stream(c.getDeclaredFields()).filter(f -> !Modifier.isStatic(f.getModifiers())).count();
  }

  private static void source() throws IOException {
    String all = Files.readString(SOURCE);
    must(all.chars().allMatch(ch -> ch == '\n' || (ch >= 32 && ch < 127)), "plain signs alone");
    String code = all.replaceAll("(?s)/\\*.*?\\*/", "").replaceAll("//[^\n]*", "");
    for (String banned : List.of("->", "::", "Exact", "try", "catch", "finally", "synchronized", "assert", "double",
        "float", "hashCode", "toString", "System.out", "Math.random", "currentTime", "nanoTime", "String", "Object")) {
      must(!Pattern.compile(Pattern.quote(banned)).matcher(code).find(), "no " + banned);
    }
    Set<String> imports = new TreeSet<>();
    Matcher m = Pattern.compile("import ([^;]+);").matcher(code);
    while (m.find()) imports.add(m.group(1));
    must(imports.equals(Set.of("java.util.Arrays", "java.util.NoSuchElementException")), "imports: " + imports);
    Set<String> library = new TreeSet<>();
    m = Pattern.compile("\\b(Arrays|System|Math|Integer|Long)\\.(\\w+)").matcher(code);
    while (m.find()) library.add(m.group());
    must(Set.of("Arrays.fill", "System.arraycopy", "Math.min", "Math.max", "Integer.bitCount", "Long.bitCount")
        .containsAll(library), "library: " + library);
    must(count(code, "throw new") == 1, "one throw");
    must(longestMethod(all) <= 60, "methods of sixty lines at most: " + longestMethod(all));
  }

  /** Each line of the document's face, and each heading that it wants ahead of calls, in the document's order. */
  private static void faceOfDocument() throws IOException {
    String document = Files.readString(DOCUMENT);
    String all = Files.readString(SOURCE);
    int at = 0;
    Matcher m = Pattern.compile("\n    (public [^;\n]+);").matcher(document);
    int lines = 0;
    while (m.find()) {
      boolean constant = m.group(1).contains(" = ");
      int found = all.indexOf("\n    " + m.group(1) + (constant ? ";" : " {"), at);
      must(found >= 0, "in its order: " + m.group(1));
      at = Math.max(at, found);
      lines++;
    }
    must(lines == FACE.length + 2, "the face of the document has so many lines: " + lines);
    m = Pattern.compile("Ahead of the calls `(\\w+)`.* the interface says: (---- .+)\\.\n").matcher(document);
    int headings = 0;
    while (m.find()) {
      String ahead = "    // " + Pattern.quote(m.group(2)) + "\n\n    public \\w+ " + m.group(1) + "\\(";
      must(Pattern.compile(ahead).matcher(all).find(), m.group(2) + " stands ahead of " + m.group(1));
      headings++;
    }
    must(headings == 6, "the document wants so many headings: " + headings);
  }

  private static int count(String code, String what) { return code.split(Pattern.quote(what), -1).length - 1; }

  /** Methods of the face are indented by 4, those of classes inside by 8: a method ends at a lone } so far in. */
  private static int longestMethod(String all) {
    int longest = 0;
    String[] lines = all.split("\n");
    for (int i = 0; i < lines.length; i++) {
      Matcher head = Pattern.compile("( {4}| {8})[a-zA-Z].*\\) (throws \\w+ )?\\{").matcher(lines[i]);
      if (!head.matches() || lines[i].matches(" *(if|for|while|switch) .*")) continue;
      int end = i;
      while (end < lines.length && !lines[end].equals(head.group(1) + "}")) end++;
      longest = Math.max(longest, end - i + 1);
    }
    return longest;
  }
}
