import java.util.NoSuchElementException;
import java.util.Random;

/** Runs of drawn calls (drawn by seeds, so always the same), each answer held against the Model's. */
public final class AgainstModelTest {
  private static final String[] NAMES = {"sign", "end", "traces", "drop", "depth", "margin", "undo", "call", "state",
      "edge", "vague", "run", "ran", "cover", "ways", "words", "apart", "walk", "rule", "rules", "odd", "oddest",
      "held", "fit", "best", "keep", "again", "count"};
  private static int wrong = 0;
  private static long calls = 0;

  private final Random draws;
  private final TraceMachines x = new TraceMachines();
  private final Model model = new Model();
  private final int run;
  private final int letters;
  private final int longest;
  private final int valuesUpTo;
  private boolean fewTraces;

  private AgainstModelTest(int run) {
    this.run = run;
    draws = new Random(run * 7919L + 17);
    letters = run % 5 == 0 ? 10 : 1 + draws.nextInt(4);
    longest = 1 + draws.nextInt(13);
    valuesUpTo = new int[] {1, 5, 30, 100}[draws.nextInt(4)];
    fewTraces = run % 7 != 0;
  }

  public static void main(String[] args) {
    int runs = args.length > 0 ? Integer.parseInt(args[0]) : 120;
    int from = args.length > 1 ? Integer.parseInt(args[1]) : 0;
    for (int run = from; run < from + runs && wrong < 20; run++) new AgainstModelTest(run).go();
    System.out.println(calls + " calls held against the model, " + wrong + " wrong");
    if (wrong != 0) System.exit(1);
  }

  private void go() {
    for (int i = 0; i < 400; i++) {
      if (draws.nextInt(12) == 0) bringText();
      else if (draws.nextInt(20) == 0) wholeMachine();
      else ask(drawName(), number(), number(), number(), number());
    }
  }

  private String drawName() { return NAMES[draws.nextInt(NAMES.length)]; }

  private int number() {
    int kind = draws.nextInt(20);
    if (kind < 13) return draws.nextInt(4);
    if (kind < 15) return -1;
    if (kind < 18) return draws.nextInt(25);
    if (kind < 19) return draws.nextInt(1000000);
    return new int[] {-2, Integer.MIN_VALUE, Integer.MAX_VALUE, 240, 999999, 1000000}[draws.nextInt(6)];
  }

  private void bringText() {
    StringBuilder b = new StringBuilder();
    int n = fewTraces ? 1 + draws.nextInt(4) : 1 + draws.nextInt(12);
    for (int t = 0; t < n; t++) {
      if (t > 0) b.append(blanks()).append(';');
      int length = draws.nextInt(longest + 1);
      for (int i = 0; i < length; i++) {
        b.append(blanks()).append((char) ('a' + draws.nextInt(letters)));
        int digits = draws.nextInt(4) - 1;
        if (digits > 0) b.append(draws.nextInt(digits == 1 ? Math.min(10, valuesUpTo) : valuesUpTo));
      }
    }
    b.append(blanks());
    if (draws.nextInt(8) == 0) b.insert(draws.nextInt(b.length() + 1), (char) new int[] {'k', '5', ';', 0, 255, ' ',
        '`', '/', ':', 'A'}[draws.nextInt(10)]);
    if (b.length() > 240) b.setLength(240);
    ask("end", 0, 0, 0, 0);
    send(b.toString());
    if (draws.nextInt(3) == 0) ask("run", draws.nextInt(2), 0, 0, 0);
    else ask("traces", 0, 0, 0, 0);
    for (int what = 0; what < 3; what++) ask("ran", what, 0, 0, 0);
  }

  private String blanks() { return "   ".substring(0, Math.max(0, draws.nextInt(6) - 3)); }

  private void send(String text) {
    for (int i = 0; i < text.length(); i += 4) {
      int v = 0;
      for (int j = i; j < i + 4; j++) v = v << 8 | (j < text.length() ? text.charAt(j) : ' ');
      ask("sign", v, 0, 0, 0);
    }
    ask("end", text.length(), 0, 0, 0);
  }

  private void wholeMachine() {
    for (int what = 0; what < 10; what++) ask("count", what, 0, 0, 0);
    int states = model.count(3);
    for (int s = 0; s <= states && s < 60; s++) for (int what = 0; what < 7; what++) ask("state", s, what, 0, 0);
    int edges = model.count(4);
    for (int e = 0; e <= edges && e < 60; e++) for (int what = 0; what < 6; what++) ask("edge", e, what, 0, 0);
    for (int n = 0; n <= 8; n++) ask("words", n, 0, 0, 0);
    for (int k = 0; k < 16; k++) for (int i = -1; i < 9; i++) ask("apart", k / 4, k % 4, i, 0);
    for (int t = 0; t <= model.count(0); t++) {
      ask("ways", t, 0, 0, 0);
      ask("oddest", t, 0, 0, 0);
      for (int what = 0; what < 3; what++) ask("odd", t, what, 0, 0);
      for (int k = 0; k < 8; k++) ask("held", t, k / 2, k % 2, 0);
    }
    for (int what = 0; what < 2; what++) {
      ask("vague", what, 0, 0, 0);
      ask("cover", what, 0, 0, 0);
      ask("best", what, 0, 0, 0);
    }
    for (int kind = 0; kind < 6; kind++) for (int i = -1; i < 3; i++) ask("rules", kind, 1 + draws.nextInt(3), i, 0);
    int seed = draws.nextInt(1000000);
    for (int i = -1; i < 13; i++) ask("walk", seed, i, 0, 0);
    if (model.count(0) > 14 && fewTraces) while (model.count(0) > 3) ask("drop", draws.nextInt(3), 0, 0, 0);
  }

  private void ask(String name, int a, int b, int c, int d) {
    // The model finds covers by all subsets: many traces are asked now and then alone.
    if (name.equals("cover") && model.count(0) > 13 && draws.nextInt(10) != 0) return;
    calls++;
    long want = ofModel(name, a, b, c, d);
    long got = ofProgram(name, a, b, c, d);
    if (got != want && wrong++ < 20) {
      System.out.println("run " + run + ": " + name + "(" + a + ", " + b + ", " + c + ", " + d + ") answered " + got
          + ", due is " + want);
    }
  }

  private static long bit(boolean b) { return b ? 1 : 0; }

  private long ofProgram(String name, int a, int b, int c, int d) {
    switch (name) {
      case "sign": return x.sign(a);
      case "end": return bit(x.end(a));
      case "traces": return x.traces();
      case "drop": return x.drop(a);
      case "depth": return x.depth(a);
      case "margin": return x.margin(a);
      case "undo": return x.undo();
      case "call":
        try {
          return x.call(a, b, c);
        } catch (NoSuchElementException e) {
          return Long.MIN_VALUE;
        }
      case "state": return x.state(a, b);
      case "edge": return x.edge(a, b);
      case "vague": return x.vague(a);
      case "run": return x.run(a == 1);
      case "ran": return x.ran(a);
      case "cover": return x.cover(a);
      case "ways": return x.ways(a);
      case "words": return x.words(a);
      case "apart": return x.apart(a, b, c);
      case "walk": return x.walk(a, b);
      case "rule": return x.rule(a, b, c, d);
      case "rules": return x.rules(a, b, c);
      case "odd": return x.odd(a, b);
      case "oddest": return x.oddest(a);
      case "held": return x.held(a, b, c == 1);
      case "fit": return x.fit(a, b);
      case "best": return x.best(a);
      case "keep": return bit(x.keep(a));
      case "again": return bit(x.again(a));
      default: return x.count(a);
    }
  }

  private long ofModel(String name, int a, int b, int c, int d) {
    switch (name) {
      case "sign": return model.sign(a);
      case "end": return bit(model.end(a));
      case "traces": return model.traces();
      case "drop": return model.drop(a);
      case "depth": return model.depth(a);
      case "margin": return model.margin(a);
      case "undo": return model.undo();
      case "call":
        try {
          return model.call(a, b, c);
        } catch (NoSuchElementException e) {
          return Long.MIN_VALUE;
        }
      case "state": return model.state(a, b);
      case "edge": return model.edge(a, b);
      case "vague": return model.vague(a);
      case "run": return model.run(a == 1);
      case "ran": return model.ran(a);
      case "cover": return model.cover(a);
      case "ways": return model.ways(a);
      case "words": return model.words(a);
      case "apart": return model.apart(a, b, c);
      case "walk": return model.walk(a, b);
      case "rule": return model.rule(a, b, c, d);
      case "rules": return model.rules(a, b, c);
      case "odd": return model.odd(a, b);
      case "oddest": return model.oddest(a);
      case "held": return model.held(a, b, c == 1);
      case "fit": return model.fit(a, b);
      case "best": return model.best(a);
      case "keep": return bit(model.keep(a));
      case "again": return bit(model.again(a));
      default: return model.count(a);
    }
  }
}
