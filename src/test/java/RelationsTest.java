import java.util.ArrayList;
import java.util.List;
import java.util.Random;

/**
 * What must be so between calls, whatever the TRACES are: each is asked by two ways through the class itself, as a
 * TRACE HELD OUT and the same TRACE run on an object that the others alone were brought to.
 */
public final class RelationsTest {
  private static final int NONE = TraceMachines.NONE;
  private static int wrong = 0;
  private static int checked = 0;

  private final int run;
  private final Random draws;
  private final int letters;
  private final List<String> traces = new ArrayList<>();
  private final TraceMachines x;

  private RelationsTest(int run) {
    this.run = run;
    draws = new Random(run * 104729L + 5);
    letters = 1 + draws.nextInt(3);
    int n = draws.nextInt(8);
    for (int t = 0; t < n; t++) traces.add(drawnTrace());
    x = objectOf(traces);
    x.margin(draws.nextInt(6));
  }

  public static void main(String[] args) {
    int runs = args.length > 0 ? Integer.parseInt(args[0]) : 400;
    for (int run = 0; run < runs && wrong < 20; run++) new RelationsTest(run).go();
    System.out.println(checked + " relations of calls checked, " + wrong + " wrong");
    if (wrong != 0) System.exit(1);
  }

  private void go() {
    for (int k = 0; k < 4; k++) {
      x.depth(k);
      sums();
      paths();
      tracesTaken();
      wordsCounted();
      walksTaken();
      coverGoesAll();
      oddInOrder();
      heldByOthers(k);
      for (int other = 0; other < 4; other++) wordParts(k, other);
    }
    moreStatesByDepth();
    bestOfFits();
    rulesOfRule();
    rulesImply();
    undoneAllTheWay();
  }

  // ---- means

  private String drawnTrace() {
    StringBuilder b = new StringBuilder();
    int length = draws.nextInt(7);
    for (int i = 0; i < length; i++) {
      b.append((char) ('a' + draws.nextInt(letters)));
      if (draws.nextBoolean()) b.append(draws.nextInt(12));
    }
    return b.toString();
  }

  private static TraceMachines objectOf(List<String> traces) {
    TraceMachines made = new TraceMachines();
    for (String trace : traces) {
      send(made, trace);
      made.traces();
    }
    return made;
  }

  private static void send(TraceMachines to, String text) {
    for (int i = 0; i < text.length(); i += 4) {
      int v = 0;
      for (int j = i; j < i + 4; j++) v = v << 8 | (j < text.length() ? text.charAt(j) : ' ');
      to.sign(v);
    }
  }

  private static int ranOn(TraceMachines on, String text, boolean guarded) {
    send(on, text);
    return on.run(guarded);
  }

  private void due(String what, long got, long want) {
    checked++;
    if (got == want || wrong++ >= 20) return;
    System.out.println("run " + run + " " + traces + " by depth " + x.count(6) + ": " + what + " is " + got
        + ", not " + want);
  }

  private void must(String what, boolean is) { due(what, is ? 1 : 0, 1); }

  private String letters(int trace) { return traces.get(trace).replaceAll("[0-9]", ""); }

  // ---- relations

  private void sums() {
    int[] sums = new int[7];
    for (int s = 0; s < x.count(3); s++) for (int what = 1; what < 6; what++) sums[what] += x.state(s, what);
    due("PREFIXES of all STATES", sums[1], x.count(2));
    due("FINAL STATES", sums[2], x.count(5));
    due("TRACES that end in STATES", sums[3], x.count(0));
    due("EDGES of all STATES", sums[4], x.count(4));
    due("SUPPORTS of all STATES", sums[5], x.count(1));
    int supports = 0;
    for (int e = 0; e < x.count(4); e++) supports += x.edge(e, 3);
    due("SUPPORTS of all EDGES", supports, x.count(1));
  }

  /** Each CALL goes an EDGE that there is, with a VALUE of its RANGE. */
  private void paths() {
    for (int t = 0; t < traces.size(); t++) {
      int state = 0;
      for (int i = 0; i < x.call(t, NONE, 0); i++) {
        int edge = edgeOf(state, x.call(t, i, 0), x.call(t, i, 3));
        must("there is an EDGE", edge != NONE);
        int value = x.call(t, i, 1);
        must("its RANGE has the VALUE", x.edge(edge, 4) <= value && value <= x.edge(edge, 5));
        state = x.call(t, i, 3);
      }
      due("a TRACE ends in a FINAL STATE", x.state(state, 2), 1);
    }
  }

  private int edgeOf(int from, int sign, int to) {
    for (int e = 0; e < x.count(4); e++) {
      if (x.edge(e, 0) == from && x.edge(e, 1) == sign && x.edge(e, 2) == to) return e;
    }
    return NONE;
  }

  private void tracesTaken() {
    for (int t = 0; t < traces.size(); t++) {
      due("a TRACE RUNS", ranOn(x, traces.get(t), false), 1);
      due("a TRACE RUNS, GUARDED", ranOn(x, traces.get(t), true), 1);
      due("at no CALL it FAILS", x.ran(0), NONE);
      if (x.vague(0) == 0) due("ways where EDGES part by LETTERS", x.ways(t), 1);
      else must("ways of a TRACE", x.ways(t) >= 1);
    }
    must("pairs with a VALUE in common are pairs", x.vague(1) <= x.vague(0));
  }

  private void wordsCounted() {
    for (int n = 0; n < 5; n++) {
      int taken = 0;
      for (String word : words(n)) taken += ranOn(x, word, false);
      due("words of " + n, x.words(n), taken);
    }
  }

  /** All rows of n LETTERS, the least first. */
  private List<String> words(int n) {
    List<String> found = new ArrayList<>(List.of(""));
    for (int i = 0; i < n; i++) {
      List<String> longer = new ArrayList<>();
      for (String word : found) for (int c = 0; c < letters; c++) longer.add(word + (char) ('a' + c));
      found = longer;
    }
    return found;
  }

  private void walksTaken() {
    if (traces.isEmpty()) return;
    int seed = draws.nextInt(1000000);
    int length = x.walk(seed, NONE);
    StringBuilder b = new StringBuilder();
    for (int i = 0; i < (length == -2 ? 12 : length); i++) b.append((char) x.walk(seed, i));
    int taken = ranOn(x, b.toString(), false);
    if (length == -2) must("a LOST WALK goes on to its end", x.ran(0) == NONE || x.ran(0) == 12);
    else due("a WALK is TAKEN", taken, 1);
  }

  private void coverGoesAll() {
    int best = x.cover(1);
    due("bits of COVER", Integer.bitCount(best), x.cover(0));
    must("COVER goes all EDGES", goesAll(best));
    for (int some = 0; some < 1 << traces.size(); some++) {
      int fewer = Integer.compare(Integer.bitCount(some), Integer.bitCount(best));
      if (fewer < 0 || (fewer == 0 && some < best)) must("COVER is the least", !goesAll(some));
    }
  }

  private boolean goesAll(int bits) {
    boolean[] gone = new boolean[x.count(4)];
    int left = gone.length;
    for (int t = 0; t < traces.size(); t++) {
      if ((bits >> t & 1) == 0) continue;
      int state = 0;
      for (int i = 0; i < x.call(t, NONE, 0); i++) {
        int edge = edgeOf(state, x.call(t, i, 0), x.call(t, i, 3));
        if (!gone[edge]) left--;
        gone[edge] = true;
        state = x.call(t, i, 3);
      }
    }
    return left == 0;
  }

  private void oddInOrder() {
    for (int i = 0; i < traces.size(); i++) {
      int t = x.oddest(i);
      due("the place of oddest", x.odd(t, 2), i);
      if (i == 0) continue;
      int before = x.oddest(i - 1);
      int weaker = Integer.compare(x.odd(before, 0), x.odd(t, 0));
      int more = Integer.compare(x.odd(t, 1), x.odd(before, 1));
      must("in order", weaker < 0 || (weaker == 0 && (more < 0 || (more == 0 && before < t))));
    }
    due("behind all", x.oddest(traces.size()), NONE);
  }

  private void heldByOthers(int k) {
    int free = 0;
    int guarded = 0;
    for (int t = 0; t < traces.size(); t++) {
      List<String> others = new ArrayList<>(traces);
      others.remove(t);
      TraceMachines y = objectOf(others);
      y.depth(k);
      y.margin(x.count(7));
      due("held", x.held(t, k, false), ranOn(y, traces.get(t), false));
      due("held, GUARDED", x.held(t, k, true), ranOn(y, traces.get(t), true));
      free += x.held(t, k, false);
      guarded += x.held(t, k, true);
    }
    due("fit", x.fit(k, 0), free);
    due("fit, GUARDED", x.fit(k, 1), guarded);
    due("STATES by that DEPTH", x.fit(k, 2), x.count(3));
  }

  private void wordParts(int k, int other) {
    TraceMachines one = objectOf(traces);
    TraceMachines two = objectOf(traces);
    one.depth(k);
    two.depth(other);
    int length = x.apart(k, other, NONE);
    if (length == -2) return;
    StringBuilder b = new StringBuilder();
    for (int i = 0; i < length; i++) b.append((char) x.apart(k, other, i));
    String word = b.toString();
    if (length != NONE) must("it parts: " + word, ranOn(one, word, false) != ranOn(two, word, false));
    due("by either order", x.apart(other, k, NONE), length);
    for (int n = 0; n < 4 && (length == NONE || n <= length); n++) {
      for (String less : words(n)) {
        if (length != NONE && n == length && less.compareTo(word) >= 0) continue;
        due("no lesser word parts: " + less, ranOn(one, less, false), ranOn(two, less, false));
      }
    }
  }

  private void moreStatesByDepth() {
    for (int k = 1; k < 4; k++) must("a greater DEPTH has no fewer STATES", x.fit(k, 2) >= x.fit(k - 1, 2));
  }

  private void bestOfFits() {
    if (traces.isEmpty()) return;
    int best = x.best(0);
    due("how many best takes", x.best(1), x.fit(best, 0));
    for (int k = 0; k < 4; k++) {
      int fewer = Integer.compare(x.fit(k, 0), x.fit(best, 0));
      int states = Integer.compare(x.fit(k, 2), x.fit(best, 2));
      must("best", fewer < 0 || (fewer == 0 && (states < 0 || (states == 0 && k >= best))));
    }
  }

  private void rulesOfRule() {
    for (int kind = 0; kind < 6; kind++) {
      int least = 1 + draws.nextInt(4);
      int found = 0;
      for (int xy = 0; xy < 100; xy++) {
        int asked = x.rule(kind, xy / 10, xy % 10, 0);
        if (asked < least || asked != x.rule(kind, xy / 10, xy % 10, 1)) continue;
        due("a RULE in order", x.rules(kind, least, found), xy);
        found++;
      }
      due("how many RULES", x.rules(kind, least, NONE), found);
      due("behind them", x.rules(kind, least, found), NONE);
    }
  }

  /** Each RULE is asked of one TRACE alone, so that what it says of it can be seen. */
  private void rulesImply() {
    for (int t = 0; t < traces.size(); t++) {
      TraceMachines y = objectOf(traces.subList(t, t + 1));
      String calls = letters(t);
      for (int xy = 0; xy < 9; xy++) {
        int a = xy / 3;
        int b = xy % 3;
        if (a == b) continue;
        String both = calls.replaceAll("[^" + (char) ('a' + a) + (char) ('a' + b) + "]", "");
        String turn = "(" + (char) ('a' + a) + (char) ('a' + b) + ")+";
        due("in turn", y.rule(5, a, b, 1), both.matches(turn) ? 1 : 0);
        must("in turn, so as many", y.rule(5, a, b, 1) <= y.rule(4, a, b, 1));
        must("right behind, so behind", y.rule(3, a, b, 1) <= y.rule(0, a, b, 1));
        must("behind it or not", y.rule(0, a, b, 1) + y.rule(2, a, b, 1) <= y.rule(0, a, b, 0));
        due("as many as the other way", y.rule(4, a, b, 1), y.rule(4, b, a, 1));
        if (y.rule(1, a, b, 0) == 1 && y.rule(1, b, a, 0) == 1) {
          due("the one is first or the other", y.rule(1, a, b, 1) + y.rule(1, b, a, 1), 1);
        }
      }
    }
  }

  private void undoneAllTheWay() {
    TraceMachines y = objectOf(traces);
    List<String> seen = new ArrayList<>(List.of(told(y)));
    int acts = draws.nextInt(9);
    for (int i = 0; i < acts; i++) {
      act(y);
      seen.add(told(y));
    }
    for (int i = acts; i > 0; i--) {
      must("as it was ahead of an act", told(y).equals(seen.get(i)));
      y.undo();
    }
    must("as it was ahead of all", told(y).equals(seen.get(0)));
  }

  private void act(TraceMachines y) {
    int kind = draws.nextInt(4);
    if (kind == 0 && y.count(0) > 0) {
      y.drop(draws.nextInt(y.count(0)));
    } else if (kind == 1) {
      y.depth((y.count(6) + 1 + draws.nextInt(3)) % 4);
    } else if (kind == 2) {
      y.margin((y.count(7) + 1 + draws.nextInt(20)) % 21);
    } else {
      send(y, drawnTrace());
      y.traces();
    }
  }

  private static String told(TraceMachines y) {
    StringBuilder b = new StringBuilder();
    for (int what = 0; what < 8; what++) b.append(y.count(what)).append(' ');
    for (int t = 0; t < y.count(0); t++) {
      for (int i = 0; i < y.call(t, NONE, 0); i++) {
        for (int what = 0; what < 4; what++) b.append(y.call(t, i, what)).append(' ');
      }
      b.append(y.odd(t, 0)).append(' ').append(y.ways(t)).append(';');
    }
    for (int k = 0; k < 4; k++) for (int what = 0; what < 3; what++) b.append(y.fit(k, what)).append(' ');
    return b.append(y.cover(1)).append(' ').append(y.vague(1)).append(' ').append(y.best(0)).toString();
  }
}
