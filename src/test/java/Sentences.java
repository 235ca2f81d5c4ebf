import java.util.ArrayList;
import java.util.List;

/** Sentences of the document, each with a check of its own; and what such checks share. */
abstract class Sentences {
  static final int NONE = TraceMachines.NONE;
  static final int MIN = Integer.MIN_VALUE;
  static final int MAX = Integer.MAX_VALUE;

  /** A heading of the document ("Terms", "Promise 4"), words that stand below it, and what fails if they are broken. */
  record Sentence(String place, String quote, Runnable check) {
    String name() { return place + ": " + quote; }

    /** What was not as due; null: all was. */
    String fault() {
      try {
        check.run();
        return null;
      } catch (AssertionError | RuntimeException | StackOverflowError e) {
        return e instanceof AssertionError ? e.getMessage() : e.toString();
      }
    }
  }

  private final List<Sentence> all = new ArrayList<>();
  private String place = "";

  final List<Sentence> all() { return all; }

  final void below(String heading) { place = heading; }

  final void says(String quote, Runnable check) { all.add(new Sentence(place, quote, check)); }

  static void due(String call, long got, long want) {
    if (got != want) throw new AssertionError(call + " answered " + got + ", due is " + want);
  }

  static void due(String call, boolean got, boolean want) { due(call, got ? 1 : 0, want ? 1 : 0); }

  static void due(String call, String got, String want) {
    if (!got.equals(want)) throw new AssertionError(call + " is " + got + ", due is " + want);
  }

  /** The text is put, four signs a call; blanks that fill up the last four are cut off again. */
  static void tell(TraceMachines x, String text) {
    int before = x.count(8);
    for (int i = 0; i < text.length(); i += 4) {
      int v = 0;
      for (int j = i; j < i + 4; j++) v = v << 8 | (j < text.length() ? text.charAt(j) : ' ');
      x.sign(v);
    }
    x.end(before + text.length());
  }

  static int bring(TraceMachines x, String text) {
    tell(x, text);
    return x.traces();
  }

  static TraceMachines of(String... texts) {
    TraceMachines x = new TraceMachines();
    for (String text : texts) if (bring(x, text) < 0) throw new AssertionError("a fault in " + text);
    return x;
  }

  static TraceMachines ofDepth(int k, String... texts) {
    TraceMachines x = of(texts);
    x.depth(k);
    return x;
  }

  static int runs(TraceMachines x, String text, boolean guarded) {
    tell(x, text);
    return x.run(guarded);
  }

  static void dueRan(TraceMachines x, int failed, int states, int least) {
    due("ran(0)", x.ran(0), failed);
    due("ran(1)", x.ran(1), states);
    due("ran(2)", x.ran(2), least);
  }

  static void dueFault(TraceMachines x, String text, int at) {
    due("traces() of '" + text + "'", bring(x, text), -1000 - at);
  }

  static String letters(TraceMachines x, int trace) {
    StringBuilder b = new StringBuilder();
    for (int i = 0; i < x.call(trace, NONE, 0); i++) b.append((char) x.call(trace, i, 0));
    return b.toString();
  }

  static String walked(TraceMachines x, int seed) {
    StringBuilder b = new StringBuilder();
    for (int i = 0; i < 20 && x.walk(seed, i) != NONE; i++) b.append((char) x.walk(seed, i));
    return b.toString();
  }

  static String parting(TraceMachines x, int k, int other) {
    StringBuilder b = new StringBuilder();
    for (int i = 0; i < x.apart(k, other, NONE); i++) b.append((char) x.apart(k, other, i));
    return b.toString();
  }

  /** All that TRACES, DEPTH, MARGIN, acts and the latest run are, but not THE TEXT. */
  static String all(TraceMachines x) {
    StringBuilder b = new StringBuilder();
    for (int t = 0; t < x.count(0); t++) {
      for (int i = 0; i < x.call(t, NONE, 0); i++) b.append((char) x.call(t, i, 0)).append(x.call(t, i, 1));
      b.append(';');
    }
    for (int what : new int[] {3, 4, 6, 7, 9}) b.append(' ').append(x.count(what));
    for (int what = 0; what < 3; what++) b.append(' ').append(x.ran(what));
    return b.toString();
  }

  static String edge(TraceMachines x, int i) {
    return x.edge(i, 0) + " " + (char) x.edge(i, 1) + " " + x.edge(i, 2) + ", " + x.edge(i, 3) + " of " + x.edge(i, 4)
        + " to " + x.edge(i, 5);
  }

  static String state(TraceMachines x, int state) {
    StringBuilder b = new StringBuilder();
    for (int what = 0; what < 7; what++) b.append(what == 0 ? "" : " ").append(x.state(state, what));
    return b.toString();
  }
}
