import java.math.BigInteger;
import java.util.ArrayDeque;
import java.util.ArrayList;
import java.util.Arrays;
import java.util.Collections;
import java.util.Comparator;
import java.util.Deque;
import java.util.HashMap;
import java.util.LinkedHashMap;
import java.util.LinkedHashSet;
import java.util.List;
import java.util.Map;
import java.util.NoSuchElementException;
import java.util.Set;
import java.util.TreeMap;
import java.util.TreeSet;

/** The document told a second time, with the Java library, slowly and without any thing kept that can be found. */
final class Model {
  /** The document's limits are seldom reached: .ci/run lowers them here and in a copy of the program. */
  private static final int MOST_SETS = Integer.getInteger("sets", 100);
  private static final int MOST_TWOS = Integer.getInteger("twos", 400);

  record Call(char letter, int value) {}

  record Three(int from, char letter, int to) {}

  static final class Edge {
    Three three;
    int support;
    int low = Integer.MAX_VALUE;
    int high = Integer.MIN_VALUE;
  }

  record Kept(List<List<Call>> traces, int depth, int margin) {}

  /** A machine of some traces by a depth. */
  static final class Machine {
    final List<List<Call>> traces;
    final List<String> prefixes = new ArrayList<>();
    final List<Set<String>> follows = new ArrayList<>();
    final Map<String, Integer> stateOf = new HashMap<>();
    final Map<Three, Edge> byThree = new HashMap<>();
    final List<Edge> edges;

    Machine(List<List<Call>> traces, int k) {
      this.traces = traces;
      Set<String> met = new LinkedHashSet<>();
      for (List<Call> t : traces) {
        for (int i = 0; i <= t.size(); i++) met.add(letters(t).substring(0, i));
      }
      prefixes.addAll(met);
      for (String p : prefixes) {
        Set<String> f = followsOf(p, k);
        if (!follows.contains(f)) follows.add(f);
        stateOf.put(p, follows.indexOf(f));
      }
      for (List<Call> t : traces) {
        for (int i = 0; i < t.size(); i++) {
          Edge e = byThree.computeIfAbsent(threeOf(t, i), x -> new Edge());
          e.three = threeOf(t, i);
          e.support++;
          e.low = Math.min(e.low, t.get(i).value());
          e.high = Math.max(e.high, t.get(i).value());
        }
      }
      edges = new ArrayList<>(byThree.values());
      edges.sort(Comparator.comparingInt((Edge e) -> e.three.from()).thenComparing(e -> e.three.letter())
          .thenComparing(e -> e.three.to()));
    }

    Set<String> followsOf(String p, int k) {
      Set<String> f = new TreeSet<>();
      for (List<Call> t : traces) {
        String all = letters(t);
        if (!all.startsWith(p)) continue;
        String rest = all.substring(p.length());
        f.add(rest.length() >= k ? rest.substring(0, k) : rest + "$");
      }
      return f;
    }

    Three threeOf(List<Call> t, int i) {
      String all = letters(t);
      return new Three(stateOf.get(all.substring(0, i)), all.charAt(i), stateOf.get(all.substring(0, i + 1)));
    }

    int ends(int state) {
      int n = 0;
      for (List<Call> t : traces) if (stateOf.get(letters(t)) == state) n++;
      return n;
    }

    boolean isFinal(int state) { return ends(state) > 0; }

    Set<Integer> start() { return traces.isEmpty() ? Set.of() : Set.of(0); }

    Set<Integer> next(Set<Integer> from, char letter, Integer value, int margin) {
      Set<Integer> to = new TreeSet<>();
      for (Edge e : edges) {
        if (e.three.letter() != letter || !from.contains(e.three.from())) continue;
        if (value != null && (value < e.low - margin || value > e.high + margin)) continue;
        to.add(e.three.to());
      }
      return to;
    }

    boolean anyFinal(Set<Integer> set) {
      for (int s : set) if (isFinal(s)) return true;
      return false;
    }

    /** Where it fails (-1: taken), how many states, the least. */
    int[] runs(List<Call> calls, boolean guarded, int margin) {
      if (traces.isEmpty()) return new int[] {0, 0, -1};
      Set<Integer> set = start();
      for (int i = 0; i < calls.size(); i++) {
        Call c = calls.get(i);
        set = next(set, c.letter(), guarded ? c.value() : null, margin);
        if (set.isEmpty()) return new int[] {i, 0, -1};
      }
      return new int[] {anyFinal(set) ? -1 : calls.size(), set.size(), Collections.min(set)};
    }
  }

  static String letters(List<Call> t) {
    StringBuilder b = new StringBuilder();
    for (Call c : t) b.append(c.letter());
    return b.toString();
  }

  private String text = "";
  private List<List<Call>> traces = new ArrayList<>();
  private int depth = 1;
  private int margin = 0;
  private final Deque<Kept> past = new ArrayDeque<>();
  private final Kept[] kept = new Kept[2];
  private int[] ran = {-1, -1, -1};
  private final Map<Integer, Machine> made = new HashMap<>();

  private Machine machine(int k) {
    return made.computeIfAbsent(k, x -> new Machine(traces, x));
  }

  private void remember() {
    past.addLast(new Kept(traces, depth, margin));
    if (past.size() > 8) past.removeFirst();
  }

  private void set(Kept k) {
    traces = k.traces();
    depth = k.depth();
    margin = k.margin();
    made.clear();
  }

  int sign(int v) {
    if (text.length() + 4 > 240) return -1;
    text += "" + (char) (v >>> 24) + (char) (v >> 16 & 255) + (char) (v >> 8 & 255) + (char) (v & 255);
    return text.length();
  }

  boolean end(int n) {
    if (n < 0 || n > text.length()) return false;
    text = text.substring(0, n);
    return true;
  }

  /** The traces of the text, or null with the fault's place in fault. */
  private List<List<Call>> parsed(int room, boolean single) {
    List<List<Call>> all = new ArrayList<>();
    int p = 0;
    while (true) {
      List<Call> t = new ArrayList<>();
      p = behindBlanks(p);
      if (all.size() == room) return faultAt(p);
      while (p < text.length() && text.charAt(p) != ';') {
        char c = text.charAt(p);
        if (c < 'a' || c > 'j' || t.size() == 12) return faultAt(p);
        int q = p + 1;
        while (q < text.length() && q < p + 3 && text.charAt(q) >= '0' && text.charAt(q) <= '9') q++;
        t.add(new Call(c, q == p + 1 ? 0 : Integer.parseInt(text.substring(p + 1, q))));
        p = behindBlanks(q);
      }
      all.add(t);
      if (p == text.length()) return all;
      if (single) return faultAt(p);
      p++;
    }
  }

  private int fault;

  private List<List<Call>> faultAt(int p) {
    fault = p;
    return null;
  }

  private int behindBlanks(int p) {
    while (p < text.length() && text.charAt(p) == ' ') p++;
    return p;
  }

  int traces() {
    List<List<Call>> came = parsed(20 - traces.size(), false);
    text = "";
    if (came == null) return -1000 - fault;
    remember();
    traces = new ArrayList<>(traces);
    traces.addAll(came);
    made.clear();
    return traces.size();
  }

  private boolean noTrace(int t) { return t < 0 || t >= traces.size(); }

  int drop(int t) {
    if (noTrace(t)) return -2;
    remember();
    traces = new ArrayList<>(traces);
    traces.remove(t);
    made.clear();
    return traces.size();
  }

  int depth(int k) {
    if (k < 0 || k > 3) return -1;
    if (k == depth) return -3;
    remember();
    int was = depth;
    depth = k;
    return was;
  }

  int margin(int w) {
    if (w < 0 || w > 20) return -1;
    if (w == margin) return -3;
    remember();
    int was = margin;
    margin = w;
    return was;
  }

  int undo() {
    if (past.isEmpty()) return -3;
    set(past.removeLast());
    return past.size();
  }

  int call(int t, int i, int what) {
    if (noTrace(t)) throw new NoSuchElementException();
    List<Call> calls = traces.get(t);
    if (i == -1 && what == 0) return calls.size();
    if (i < 0 || i >= calls.size()) return -1;
    String p = letters(calls).substring(0, i + 1);
    if (what == 0) return calls.get(i).letter();
    if (what == 1) return calls.get(i).value();
    if (what == 2) return machine(depth).prefixes.indexOf(p);
    if (what == 3) return machine(depth).stateOf.get(p);
    return -1;
  }

  int state(int state, int what) {
    Machine m = machine(depth);
    if (state < 0 || state >= m.follows.size()) return -1;
    List<Integer> own = new ArrayList<>();
    for (int p = 0; p < m.prefixes.size(); p++) if (m.stateOf.get(m.prefixes.get(p)) == state) own.add(p);
    int edges = 0;
    int supports = 0;
    for (Edge e : m.edges) {
      if (e.three.from() == state) {
        edges++;
        supports += e.support;
      }
    }
    int[] told = {own.get(0), own.size(), m.isFinal(state) ? 1 : 0, m.ends(state), edges, supports,
        m.follows.get(state).size()};
    return what < 0 || what > 6 ? -1 : told[what];
  }

  int edge(int i, int what) {
    Machine m = machine(depth);
    if (i < 0 || i >= m.edges.size() || what < 0 || what > 5) return -1;
    Edge e = m.edges.get(i);
    return new int[] {e.three.from(), e.three.letter(), e.three.to(), e.support, e.low, e.high}[what];
  }

  int vague(int what) {
    if (what != 0 && what != 1) return -1;
    int n = 0;
    List<Edge> es = machine(depth).edges;
    for (int i = 0; i < es.size(); i++) {
      for (int j = 0; j < i; j++) {
        Edge a = es.get(i);
        Edge b = es.get(j);
        if (a.three.from() != b.three.from() || a.three.letter() != b.three.letter()) continue;
        boolean common = false;
        for (int v = 0; v <= 99; v++) {
          common |= v >= a.low - margin && v <= a.high + margin && v >= b.low - margin && v <= b.high + margin;
        }
        if (what == 0 || common) n++;
      }
    }
    return n;
  }

  int run(boolean guarded) {
    List<List<Call>> one = parsed(1, true);
    text = "";
    if (one == null) return -1000 - fault;
    ran = machine(depth).runs(one.get(0), guarded, margin);
    return ran[0] == -1 ? 1 : 0;
  }

  int ran(int what) { return what < 0 || what > 2 ? -1 : ran[what]; }

  int cover(int what) {
    if (what != 0 && what != 1) return -1;
    Machine m = machine(depth);
    long[][] gone = new long[traces.size()][4];
    long[] all = new long[4];
    for (int t = 0; t < traces.size(); t++) {
      for (int i = 0; i < traces.get(t).size(); i++) {
        int e = m.edges.indexOf(m.byThree.get(m.threeOf(traces.get(t), i)));
        gone[t][e >> 6] |= 1L << e;
        all[e >> 6] |= 1L << e;
      }
    }
    int best = -1;
    for (int bits = 0; bits < 1 << traces.size(); bits++) {
      if (best != -1 && Integer.bitCount(bits) >= Integer.bitCount(best)) continue;
      long[] got = new long[4];
      for (int t = 0; t < traces.size(); t++) {
        if ((bits >> t & 1) == 1) for (int w = 0; w < 4; w++) got[w] |= gone[t][w];
      }
      if (Arrays.equals(got, all)) best = bits;
    }
    return what == 0 ? Integer.bitCount(best) : best;
  }

  int ways(int t) {
    if (noTrace(t)) return -1;
    Machine m = machine(depth);
    Map<Integer, BigInteger> at = new HashMap<>(Map.of(0, BigInteger.ONE));
    for (Call c : traces.get(t)) {
      Map<Integer, BigInteger> then = new HashMap<>();
      for (Edge e : m.edges) {
        if (e.three.letter() == c.letter() && at.containsKey(e.three.from())) {
          then.merge(e.three.to(), at.get(e.three.from()), BigInteger::add);
        }
      }
      at = then;
    }
    BigInteger all = BigInteger.ZERO;
    for (int s : at.keySet()) if (m.isFinal(s)) all = all.add(at.get(s));
    return all.min(BigInteger.valueOf(1000000)).intValue();
  }

  int words(int n) {
    if (n < 0 || n > 8) return -1;
    Machine m = machine(depth);
    Map<Set<Integer>, Long> level = new LinkedHashMap<>();
    if (!traces.isEmpty()) level.put(m.start(), 1L);
    for (int i = 0; i < n; i++) {
      if (level.size() > MOST_SETS) return -2;
      Map<Set<Integer>, Long> then = new LinkedHashMap<>();
      for (Set<Integer> set : level.keySet()) {
        for (char c = 'a'; c <= 'j'; c++) {
          Set<Integer> to = m.next(set, c, null, 0);
          if (!to.isEmpty()) then.merge(to, level.get(set), Long::sum);
        }
      }
      level = then;
    }
    long all = 0;
    for (Set<Integer> set : level.keySet()) if (m.anyFinal(set)) all += level.get(set);
    return (int) all;
  }

  int apart(int k, int other, int i) {
    if (k < 0 || k > 3 || other < 0 || other > 3) return -1;
    Machine a = machine(k);
    Machine b = machine(other);
    List<List<Set<Integer>>> order = new ArrayList<>();
    Map<List<Set<Integer>>, String> wordTo = new HashMap<>();
    List<Set<Integer>> first = List.of(a.start(), b.start());
    order.add(first);
    wordTo.put(first, "");
    for (int at = 0; at < order.size(); at++) {
      List<Set<Integer>> two = order.get(at);
      String word = wordTo.get(two);
      if (a.anyFinal(two.get(0)) != b.anyFinal(two.get(1))) {
        if (i == -1) return word.length();
        return i >= 0 && i < word.length() ? word.charAt(i) : -1;
      }
      if (word.length() == 8) continue;
      for (char c = 'a'; c <= 'j'; c++) {
        List<Set<Integer>> to = List.of(a.next(two.get(0), c, null, 0), b.next(two.get(1), c, null, 0));
        if (wordTo.containsKey(to)) continue;
        if (order.size() == MOST_TWOS) return -2;
        order.add(to);
        wordTo.put(to, word + c);
      }
    }
    return -1;
  }

  int walk(int seed, int i) {
    if (seed < 0 || seed > 999999 || traces.isEmpty()) return -1;
    Machine m = machine(depth);
    long s = seed;
    int state = 0;
    String word = "";
    boolean lost = false;
    while (true) {
      List<Edge> slots = new ArrayList<>();
      for (int n = m.ends(state); n > 0; n--) slots.add(null);
      for (Edge e : m.edges) {
        if (e.three.from() == state) for (int n = e.support; n > 0; n--) slots.add(e);
      }
      s = (1103 * s + 12345) % 1000003;
      Edge e = slots.get((int) (s % slots.size()));
      if (e == null) break;
      if (word.length() == 12) {
        lost = true;
        break;
      }
      word += e.three.letter();
      state = e.three.to();
    }
    if (i == -1) return lost ? -2 : word.length();
    return i >= 0 && i < word.length() ? word.charAt(i) : -1;
  }

  private static boolean asked(int kind, String t, char x, char y) {
    boolean hasX = t.indexOf(x) >= 0;
    boolean hasY = t.indexOf(y) >= 0;
    if (kind == 1) return hasY;
    return kind >= 4 ? hasX || hasY : hasX;
  }

  private static boolean so(int kind, String t, char x, char y) {
    String both = t.replaceAll("[^" + x + y + "]", "");
    boolean so = true;
    for (int i = 0; i < t.length(); i++) {
      String ahead = t.substring(0, i);
      String behind = t.substring(i + 1);
      if (kind == 0 && t.charAt(i) == x) so &= behind.indexOf(y) >= 0;
      if (kind == 1 && t.charAt(i) == y) so &= ahead.indexOf(x) >= 0;
      if (kind == 2 && t.charAt(i) == x) so &= behind.indexOf(y) < 0;
      if (kind == 3 && t.charAt(i) == x) so &= !behind.isEmpty() && behind.charAt(0) == y;
    }
    if (kind == 4) so = both.replace("" + x, "").length() == both.replace("" + y, "").length();
    if (kind == 5) so = both.matches("(" + x + y + ")*");
    return so;
  }

  int rule(int kind, int x, int y, int what) {
    if (kind < 0 || kind > 5 || x < 0 || x > 9 || y < 0 || y > 9 || x == y || what < 0 || what > 1) return -1;
    int n = 0;
    for (List<Call> t : traces) {
      String l = letters(t);
      char cx = (char) ('a' + x);
      char cy = (char) ('a' + y);
      if (asked(kind, l, cx, cy) && (what == 0 || so(kind, l, cx, cy))) n++;
    }
    return n;
  }

  int rules(int kind, int least, int i) {
    if (kind < 0 || kind > 5 || least < 1 || least > 20) return -1;
    List<Integer> found = new ArrayList<>();
    for (int x = 0; x < 10; x++) {
      for (int y = 0; y < 10; y++) {
        if (x == y) continue;
        int n = rule(kind, x, y, 0);
        if (n >= least && rule(kind, x, y, 1) == n) found.add(10 * x + y);
      }
    }
    if (i == -1) return found.size();
    return i >= 0 && i < found.size() ? found.get(i) : -1;
  }

  private int[] weakness(int t) {
    Machine m = machine(depth);
    Map<Integer, Integer> bySupport = new TreeMap<>();
    for (int i = 0; i < traces.get(t).size(); i++) {
      bySupport.merge(m.byThree.get(m.threeOf(traces.get(t), i)).support, 1, Integer::sum);
    }
    if (bySupport.isEmpty()) return new int[] {999, 0};
    int least = bySupport.keySet().iterator().next();
    return new int[] {least, bySupport.get(least)};
  }

  private List<Integer> byOddness() {
    List<Integer> order = new ArrayList<>();
    for (int t = 0; t < traces.size(); t++) order.add(t);
    order.sort(Comparator.comparingInt((Integer t) -> weakness(t)[0]).thenComparing(t -> -weakness(t)[1])
        .thenComparing(t -> t));
    return order;
  }

  int odd(int t, int what) {
    if (noTrace(t) || what < 0 || what > 2) return -1;
    return what == 2 ? byOddness().indexOf(t) : weakness(t)[what];
  }

  int oddest(int i) { return noTrace(i) ? -1 : byOddness().get(i); }

  int held(int t, int k, boolean guarded) {
    if (noTrace(t) || k < 0 || k > 3) return -1;
    List<List<Call>> others = new ArrayList<>(traces);
    List<Call> one = others.remove(t);
    return new Machine(others, k).runs(one, guarded, margin)[0] == -1 ? 1 : 0;
  }

  int fit(int k, int what) {
    if (k < 0 || k > 3 || what < 0 || what > 2) return -1;
    if (what == 2) return machine(k).follows.size();
    int n = 0;
    for (int t = 0; t < traces.size(); t++) n += held(t, k, what == 1);
    return n;
  }

  int best(int what) {
    if (traces.isEmpty() || what < 0 || what > 1) return -1;
    List<Integer> order = new ArrayList<>(List.of(0, 1, 2, 3));
    order.sort(Comparator.comparingInt((Integer k) -> -fit(k, 0)).thenComparing(k -> -fit(k, 2))
        .thenComparing(k -> k));
    return what == 0 ? order.get(0) : fit(order.get(0), 0);
  }

  boolean keep(int k) {
    if (k != 0 && k != 1) return false;
    kept[k] = new Kept(traces, depth, margin);
    return true;
  }

  boolean again(int k) {
    if ((k != 0 && k != 1) || kept[k] == null) return false;
    set(kept[k]);
    past.clear();
    return true;
  }

  int count(int what) {
    Machine m = machine(depth);
    int calls = 0;
    for (List<Call> t : traces) calls += t.size();
    int finals = 0;
    for (int s = 0; s < m.follows.size(); s++) if (m.isFinal(s)) finals++;
    int[] told = {traces.size(), calls, m.prefixes.size(), m.follows.size(), m.edges.size(), finals, depth, margin,
        text.length(), past.size()};
    return what < 0 || what > 9 ? -1 : told[what];
  }
}
