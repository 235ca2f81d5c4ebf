import java.io.IOException;
import java.nio.file.Files;
import java.nio.file.Path;
import java.util.ArrayList;
import java.util.HashSet;
import java.util.LinkedHashMap;
import java.util.List;
import java.util.Map;
import java.util.Set;

/** Each sentence of the document has a check of its own: all are run, and no words of the document are left without one. */
public final class SentencesTest {
  private static final Path DOCUMENT = Path.of("../shared/DOC.md");
  private static int wrong = 0;

  public static void main(String[] args) throws IOException {
    List<Sentences.Sentence> all = all();
    for (String line : faults()) tell(line);
    Set<String> names = new HashSet<>();
    for (Sentences.Sentence s : all) if (!names.add(s.name())) tell("twice: " + s.name());
    lookAtDocument(all);
    System.out.println(all.size() + " sentences checked, " + wrong + " wrong");
    if (wrong != 0) System.exit(1);
  }

  private static void tell(String line) {
    wrong++;
    System.out.println(line);
  }

  static List<Sentences.Sentence> all() {
    List<Sentences.Sentence> all = new ArrayList<>(new SentencesOfTerms().all());
    all.addAll(new SentencesInFull().all());
    all.addAll(new SentencesOfPromises().all());
    all.addAll(new SentencesOfFinds().all());
    return all;
  }

  /** Those sentences that do not hold, each with what was not as due. */
  static List<String> faults() {
    List<String> faults = new ArrayList<>();
    for (Sentences.Sentence s : all()) {
      String fault = s.fault();
      if (fault != null) faults.add(s.name() + " -- " + fault);
    }
    return faults;
  }

  /** What was not as due of one sentence; null: all was. */
  static String faultOf(String name) {
    for (Sentences.Sentence s : all()) if (s.name().equals(name)) return s.fault();
    return "no such sentence";
  }

  /** Every quote stands below its heading, and all words below the headings are quoted. */
  private static void lookAtDocument(List<Sentences.Sentence> all) throws IOException {
    Map<String, StringBuilder> left = sections();
    for (Sentences.Sentence s : all) {
      StringBuilder text = left.get(s.place());
      int at = text == null ? -1 : text.indexOf(s.quote());
      if (at < 0) tell("not in the document: " + s.name());
      else text.replace(at, at + s.quote().length(), "#".repeat(s.quote().length()));
    }
    for (Map.Entry<String, StringBuilder> e : left.entrySet()) {
      String rest = e.getValue().toString().replaceAll("#+", " # ");
      if (rest.matches("(?s).*\\w.*")) tell("without a check, below " + e.getKey() + ": " + rest.strip());
    }
  }

  private static Map<String, StringBuilder> sections() throws IOException {
    Map<String, StringBuilder> sections = new LinkedHashMap<>();
    StringBuilder text = new StringBuilder();
    for (String line : Files.readAllLines(DOCUMENT)) {
      if (line.startsWith("#")) {
        text = new StringBuilder();
        String heading = line.replaceAll("^#+ *", "").replaceAll(":.*", "");
        if (heading.equals("Terms") || heading.equals("What it is") || heading.startsWith("Promise ")) {
          sections.put(heading, text);
        }
      } else if (!isNoPromise(line)) {
        text.append(text.length() == 0 ? "" : " ").append(wordsOf(line));
      }
    }
    return sections;
  }

  /** What the document is about, fences, and what the interface says between its calls ask for nothing. */
  private static boolean isNoPromise(String line) {
    return line.startsWith("Machines found from runs:") || line.startsWith("```") || line.startsWith("Ahead of the calls");
  }

  /** Without the number of a term, the heads IN FULL and the signature of a call. */
  private static String wordsOf(String line) {
    return line.strip().replaceAll("^\\d\\. ", "").replaceAll("^IN FULL: ", "").replaceAll("^`[^`]*`: ", "");
  }
}
