import java.util.NoSuchElementException;

/** For each promise ordinary inputs, its edges and wrong inputs; the answers due are worked out by hand. */
public final class PromisesTest {
  private static final int NONE = TraceMachines.NONE;
  private static final int MIN = Integer.MIN_VALUE;
  private static final int MAX = Integer.MAX_VALUE;
  private static int wrong = 0;
  private static int asked = 0;
  private static String promise = "";

  public static void main(String[] args) {
    newObject();
    sign();
    end();
    traces();
    faults();
    faultsOfRoom();
    drop();
    depth();
    margin();
    undo();
    call();
    folding();
    state();
    edge();
    vague();
    run();
    ran();
    cover();
    ways();
    words();
    apart();
    walk();
    rule();
    rules();
    odd();
    oddest();
    held();
    fit();
    best();
    keepAndAgain();
    count();
    foundAnew();
    System.out.println(asked + " answers asked, " + wrong + " not as due");
    if (wrong != 0) System.exit(1);
  }

  private static void about(String what) { promise = what; }

  private static void due(String call, long got, long want) {
    asked++;
    if (got != want) {
      wrong++;
      System.out.println(promise + ": " + call + " answered " + got + ", due is " + want);
    }
  }

  private static void due(String call, boolean got, boolean want) { due(call, got ? 1 : 0, want ? 1 : 0); }

  private static int four(String s) {
    int v = 0;
    for (int i = 0; i < 4; i++) v = v << 8 | (i < s.length() ? s.charAt(i) : ' ');
    return v;
  }

  private static void tell(TraceMachines x, String text) {
    for (int i = 0; i < text.length(); i += 4) x.sign(four(text.substring(i)));
    x.end(text.length());
  }

  private static int bring(TraceMachines x, String text) {
    tell(x, text);
    return x.traces();
  }

  private static TraceMachines of(String... texts) {
    TraceMachines x = new TraceMachines();
    for (String text : texts) bring(x, text);
    return x;
  }

  private static int runs(TraceMachines x, String text, boolean guarded) {
    tell(x, text);
    return x.run(guarded);
  }

  private static void dueRan(TraceMachines x, int failed, int states, int least) {
    due("ran(0)", x.ran(0), failed);
    due("ran(1)", x.ran(1), states);
    due("ran(2)", x.ran(2), least);
  }

  private static String word(TraceMachines x, int k, int other) {
    StringBuilder b = new StringBuilder();
    for (int i = 0; i < x.apart(k, other, NONE); i++) b.append((char) x.apart(k, other, i));
    return b.toString();
  }

  private static String times(String s, int n) { return s.repeat(n); }

  private static void newObject() {
    about("1 new object");
    TraceMachines x = new TraceMachines();
    int[] counts = {0, 0, 0, 0, 0, 0, 1, 0, 0, 0};
    for (int what = 0; what < 10; what++) due("count(" + what + ")", x.count(what), counts[what]);
    due("undo()", x.undo(), -3);
    due("state(0, 0)", x.state(0, 0), NONE);
    due("edge(0, 0)", x.edge(0, 0), NONE);
    due("NONE", TraceMachines.NONE, -1);
  }

  private static void sign() {
    about("2 sign");
    TraceMachines x = new TraceMachines();
    for (int i = 1; i <= 60; i++) due("sign", x.sign(four("a;b;")), 4 * i);
    due("a 61st sign", x.sign(four("a   ")), NONE);
    due("count(8)", x.count(8), 240);
    due("end(237)", x.end(237), true);
    due("sign with 237", x.sign(0), NONE);
    due("count(8)", x.count(8), 237);
    due("end(236)", x.end(236), true);
    due("sign with 236", x.sign(0), 240);
    TraceMachines y = new TraceMachines();
    y.sign(0x61326239); // a2b9
    y.traces();
    due("highest byte first", y.call(0, 0, 0), 'a');
    due("second", y.call(0, 0, 1), 2);
    due("third", y.call(0, 1, 0), 'b');
    due("lowest", y.call(0, 1, 1), 9);
    y.sign(0xe1202020);
    due("a byte above 127 is no letter", y.traces(), -1000);
    y.sign(-1);
    due("255", y.traces(), -1000);
  }

  private static void end() {
    about("3 end");
    TraceMachines x = new TraceMachines();
    due("end(0)", x.end(0), true);
    due("end(1)", x.end(1), false);
    tell(x, "abcd");
    due("end(5)", x.end(5), false);
    due("end(-1)", x.end(-1), false);
    due("end(MIN)", x.end(MIN), false);
    due("end(MAX)", x.end(MAX), false);
    due("count(8)", x.count(8), 4);
    due("end(4)", x.end(4), true);
    due("end(2)", x.end(2), true);
    due("count(8)", x.count(8), 2);
    due("end(3)", x.end(3), false);
    x.traces();
    due("the first two alone", x.call(0, NONE, 0), 2);
    due("count(8) behind traces()", x.count(8), 0);
  }

  private static void traces() {
    about("4 traces");
    TraceMachines x = new TraceMachines();
    due("an empty text", x.traces(), 1);
    due("its calls", x.call(0, NONE, 0), 0);
    due("blanks alone", bring(x, "    "), 2);
    due("; is two", bring(x, ";"), 4);
    due("blanks about ;", bring(x, "  ;  a7  ;  "), 7);
    due("a7", x.call(5, 0, 1), 7);
    due("like ones are two", bring(x, "ab;ab"), 9);
    due("values", bring(x, " a b0c9 d10e99f05  "), 10);
    due("calls", x.call(9, NONE, 0), 6);
    int[] values = {0, 0, 9, 10, 99, 5};
    for (int i = 0; i < 6; i++) due("value " + i, x.call(9, i, 1), values[i]);
    due("twelve calls", bring(x, "abcdefghijab"), 11);
    due("twelve calls each", bring(x, "abcdefghijab;abcdefghijab "), 13);
    due("letters", x.call(12, 9, 0), 'j');
    due("undoable", x.count(9), 8);
  }

  private static void dueFault(String text, int at) {
    TraceMachines x = of("a5");
    x.depth(2);
    runs(x, "a", false);
    due("traces() of '" + text + "'", bring(x, text), -1000 - at);
    due("text is empty then", x.count(8), 0);
    due("nothing came", x.count(0), 1);
    due("nothing to be undone came", x.count(9), 2);
    if (text.indexOf(';') < 0) {
      due("run() of '" + text + "'", runs(x, text, true), -1000 - at);
      due("text is empty then", x.count(8), 0);
      dueRan(x, NONE, 1, 1);
    }
  }

  private static void faults() {
    about("4 traces, 13 run: faults");
    dueFault("k", 0);
    dueFault("A", 0);
    dueFault("`", 0);
    dueFault("ab,c", 2);
    dueFault("1", 0);
    dueFault("  1", 2);
    dueFault("a123", 3);
    dueFault("a1 2", 3);
    dueFault("a 1", 2);
    dueFault("a\t", 1);
    dueFault("a\0", 1);
    dueFault(";1", 1);
    dueFault("a;x;y", 2);
    dueFault("a1 ;  b22 3", 10);
    dueFault("abcdefghijabc", 12);
    dueFault("abcdefghij ab  c", 15);
    dueFault("a;abcdefghijabk", 14);
    dueFault("abcdefghijab1c", 13);
    dueFault("abcdefghijab123", 14);
    dueFault("a12:", 3);
    dueFault("a/", 1);
  }

  private static void faultsOfRoom() {
    about("4 traces: room");
    TraceMachines x = of(times(";", 18));
    due("19 traces", x.count(0), 19);
    due("a;b", bring(x, "a;b"), -1002);
    due("a;", bring(x, "a;"), -1002);
    due("a;;", bring(x, "a;;"), -1002);
    due(";", bring(x, ";"), -1001);
    due("a ;x", bring(x, "a ;x"), -1003);
    due("ak;b", bring(x, "ak;b"), -1001);
    due("a; b (a blank is ahead of the letter, and may stand)", bring(x, "a; b"), -1003);
    due("a;  (the end)", bring(x, "a;  "), -1004);
    due("still 19", x.count(0), 19);
    due("the 20th", bring(x, "a"), 20);
    due("an empty text", x.traces(), -1000);
    due("b", bring(x, "b"), -1000);
    due(";", bring(x, ";"), -1000);
    due("run has room", runs(x, "a", false), 1);
    due("twenty at once", bring(new TraceMachines(), times("a;", 19) + "b"), 20);
    due("twenty-one at once", bring(new TraceMachines(), times("a;", 20) + "b"), -1040);
  }

  private static void drop() {
    about("5 drop");
    TraceMachines x = of("a;bb;ccc");
    due("drop(3)", x.drop(3), -2);
    due("drop(-1)", x.drop(-1), -2);
    due("drop(MIN)", x.drop(MIN), -2);
    due("no act", x.count(9), 1);
    due("drop(1)", x.drop(1), 2);
    due("1 is what 2 was", x.call(1, 0, 0), 'c');
    due("and its calls", x.call(1, NONE, 0), 3);
    due("0 stays", x.call(0, 0, 0), 'a');
    due("drop(0)", x.drop(0), 1);
    due("drop(0)", x.drop(0), 0);
    due("drop(0)", x.drop(0), -2);
    due("no states", x.count(3), 0);
    due("can be undone", x.count(9), 4);
  }

  private static void depth() {
    about("6 depth");
    TraceMachines x = of("aaa");
    due("depth(-1)", x.depth(-1), -1);
    due("depth(4)", x.depth(4), -1);
    due("depth(MAX)", x.depth(MAX), -1);
    due("depth(1)", x.depth(1), -3);
    due("states by 1", x.count(3), 2);
    due("depth(0)", x.depth(0), 1);
    due("states by 0", x.count(3), 1);
    due("depth(3)", x.depth(3), 0);
    due("states by 3", x.count(3), 4);
    due("depth(2)", x.depth(2), 3);
    due("states by 2", x.count(3), 3);
    due("depth(2)", x.depth(2), -3);
    due("acts", x.count(9), 4);
  }

  private static void margin() {
    about("7 margin");
    TraceMachines x = of("a10");
    due("margin(-1)", x.margin(-1), -1);
    due("margin(21)", x.margin(21), -1);
    due("margin(0)", x.margin(0), -3);
    due("a12", runs(x, "a12", true), 0);
    due("margin(20)", x.margin(20), 0);
    due("margin(2)", x.margin(2), 20);
    due("a12", runs(x, "a12", true), 1);
    due("a8", runs(x, "a8", true), 1);
    due("a7", runs(x, "a7", true), 0);
    due("a13", runs(x, "a13", true), 0);
    due("margin(2)", x.margin(2), -3);
    due("count(7)", x.count(7), 2);
    due("acts", x.count(9), 3);
  }

  private static void undo() {
    about("8 undo");
    TraceMachines x = new TraceMachines();
    due("none", x.undo(), -3);
    bring(x, "a1;b2");
    x.depth(3);
    x.margin(5);
    x.drop(0);
    due("four acts", x.count(9), 4);
    tell(x, "abc");
    due("undo drop", x.undo(), 3);
    due("THE TEXT stays", x.count(8), 3);
    due("traces", x.count(0), 2);
    due("the first is back", x.call(0, 0, 0), 'a');
    due("undo margin", x.undo(), 2);
    due("margin", x.count(7), 0);
    due("depth", x.count(6), 3);
    due("undo depth", x.undo(), 1);
    due("depth", x.count(6), 1);
    due("undo traces", x.undo(), 0);
    due("traces", x.count(0), 0);
    due("none", x.undo(), -3);
    for (int w = 1; w <= 11; w++) x.margin(w);
    due("eight can be", x.count(9), 8);
    for (int left = 7; left >= 0; left--) {
      due("undo", x.undo(), left);
      due("margin", x.count(7), left + 3);
    }
    due("the ninth can't", x.undo(), -3);
    x.margin(4);
    due("refused ones are no acts", x.margin(4), -3);
    due("one act", x.count(9), 1);
    due("undo", x.undo(), 0);
    due("margin", x.count(7), 3);
  }

  private static int throwsNoSuch(TraceMachines x, int trace, int i, int what) {
    try {
      x.call(trace, i, what);
      return 0;
    } catch (NoSuchElementException e) {
      return 1;
    }
  }

  private static void call() {
    about("9 call");
    TraceMachines x = of("a1b20;a5c;a;");
    due("how many", x.call(0, NONE, 0), 2);
    due("how many", x.call(2, NONE, 0), 1);
    due("how many", x.call(3, NONE, 0), 0);
    due("i NONE, what 1", x.call(0, NONE, 1), NONE);
    due("i NONE, what 2", x.call(0, NONE, 2), NONE);
    due("i NONE, what 3", x.call(0, NONE, 3), NONE);
    due("i -2", x.call(0, -2, 0), NONE);
    due("sign", x.call(0, 1, 0), 'b');
    due("value", x.call(0, 1, 1), 20);
    due("no value", x.call(1, 1, 1), 0);
    due("prefix a", x.call(0, 0, 2), 1);
    due("prefix ab", x.call(0, 1, 2), 2);
    due("prefix a again", x.call(1, 0, 2), 1);
    due("prefix ac", x.call(1, 1, 2), 3);
    due("state of a", x.call(2, 0, 3), 1);
    due("state of ab", x.call(0, 1, 3), 2);
    due("state of ac", x.call(1, 1, 3), 2);
    due("i too great", x.call(0, 2, 0), NONE);
    due("i 0 of none", x.call(3, 0, 0), NONE);
    due("what 4", x.call(0, 0, 4), NONE);
    due("what -1", x.call(0, 0, -1), NONE);
    due("i MAX", x.call(0, MAX, 3), NONE);
    due("trace 4 throws", throwsNoSuch(x, 4, 0, 0), 1);
    due("trace -1 throws", throwsNoSuch(x, -1, 0, 0), 1);
    due("trace MAX throws, whatever else", throwsNoSuch(x, MAX, -5, 9), 1);
    due("without traces", throwsNoSuch(new TraceMachines(), 0, NONE, 0), 1);
  }

  private static void folding() {
    about("terms 2: states");
    TraceMachines x = of("ab;cbd");
    due("by just the letters left", x.call(0, 0, 3), x.call(1, 0, 3));
    due("4 states", x.count(3), 4);
    x.depth(2);
    due("b and its end are not b, d", x.call(0, 0, 3) == x.call(1, 0, 3), false);
    // {ab cb}, {b$}, {$}, {bd}, {d$}, {$}
    due("5 states", x.count(3), 5);
    TraceMachines y = of("ba;aba;a");
    // 0 "": b a; 1 b: a; 2 ba: $; 3 a: b $; 4 ab: a; 5 aba: $
    due("prefixes", y.count(2), 6);
    due("numbered as they are met: a", y.call(2, 0, 2), 3);
    due("states", y.count(3), 4);
    due("state of ab is that of b", y.call(1, 1, 3), 1);
    due("its least prefix", y.state(1, 0), 1);
    due("the state of a is the last new one", y.call(2, 0, 3), 3);
    TraceMachines z = of(";");
    due("the empty prefix alone", z.count(2), 1);
    due("one state", z.count(3), 1);
    due("both end in it", z.state(0, 3), 2);
    due("one row, the END", z.state(0, 6), 1);
  }

  private static void dueState(TraceMachines x, int state, int... told) {
    for (int what = 0; what < 7; what++) due("state(" + state + ", " + what + ")", x.state(state, what), told[what]);
  }

  private static void state() {
    about("10 state");
    TraceMachines x = of("a1b20;a5c9;a3");
    dueState(x, 0, 0, 1, 0, 0, 1, 3, 1);
    dueState(x, 1, 1, 1, 1, 1, 2, 2, 3);
    dueState(x, 2, 2, 2, 1, 2, 0, 0, 1);
    due("state 3", x.state(3, 0), NONE);
    due("state -1", x.state(-1, 0), NONE);
    due("what 7", x.state(0, 7), NONE);
    due("what -1", x.state(0, -1), NONE);
    x.depth(0);
    dueState(x, 0, 0, 4, 1, 3, 3, 5, 1);
    due("state 1", x.state(1, 0), NONE);
    x.depth(2);
    dueState(x, 0, 0, 1, 0, 0, 1, 3, 3);
    due("state MAX", x.state(MAX, 0), NONE);
  }

  private static void dueEdge(TraceMachines x, int i, int... told) {
    for (int what = 0; what < 6; what++) due("edge(" + i + ", " + what + ")", x.edge(i, what), told[what]);
  }

  private static void edge() {
    about("11 edge");
    TraceMachines x = of("a1b20;a5c9;a3;d7");
    // 0 "": a d; 1 a: b c $; 2 ab, ac, d: $
    due("edges", x.count(4), 4);
    dueEdge(x, 0, 0, 'a', 1, 3, 1, 5);
    dueEdge(x, 1, 0, 'd', 2, 1, 7, 7);
    dueEdge(x, 2, 1, 'b', 2, 1, 20, 20);
    dueEdge(x, 3, 1, 'c', 2, 1, 9, 9);
    due("edge 4", x.edge(4, 0), NONE);
    due("edge -1", x.edge(-1, 0), NONE);
    due("what 6", x.edge(0, 6), NONE);
    due("what -1", x.edge(0, -1), NONE);
    TraceMachines y = of("a3a0a9");
    // 0 "", a, aa: a; 1 aaa: $
    dueEdge(y, 0, 0, 'a', 0, 2, 0, 3);
    dueEdge(y, 1, 0, 'a', 1, 1, 9, 9);
    due("edge 2", y.edge(2, 3), NONE);
  }

  private static void vague() {
    about("12 vague");
    TraceMachines x = of("a1a2a9");
    due("pairs", x.vague(0), 1);
    due("in common by 0", x.vague(1), 0);
    x.margin(3);
    due("by 3", x.vague(1), 0);
    x.margin(4);
    due("by 4", x.vague(1), 1);
    due("pairs", x.vague(0), 1);
    due("what 2", x.vague(2), NONE);
    due("what -1", x.vague(-1), NONE);
    TraceMachines y = of("aaaa;aa");
    // 0 "", a, aaa: a; 1 aa: a $; 2 aaaa: $; edges by a: 0 to 0, 1, 2; 1 to 0
    due("three of one state", y.vague(0), 3);
    due("all of 0", y.vague(1), 3);
    due("without traces", new TraceMachines().vague(0), 0);
    due("no pairs", of("ab;ac").vague(0), 0);
  }

  private static void run() {
    about("13 run");
    TraceMachines x = of("a1a2a9");
    due("aa", runs(x, "aa", false), 1);
    dueRan(x, NONE, 2, 0);
    due("a1a9 guarded", runs(x, "a1a9", true), 1);
    dueRan(x, NONE, 1, 1);
    due("a9a1 guarded", runs(x, "a9a1", true), 0);
    dueRan(x, 1, 0, NONE);
    due("a9a1 not guarded", runs(x, "a9a1", false), 1);
    due("a3 guarded", runs(x, "a3", true), 0);
    dueRan(x, 0, 0, NONE);
    due("a1 guarded", runs(x, "a1", true), 0);
    dueRan(x, 1, 1, 0);
    due("empty", runs(x, "", false), 0);
    dueRan(x, 0, 1, 0);
    due("b", runs(x, "aba", false), 0);
    dueRan(x, 1, 0, NONE);
    due("; can't stand", runs(x, ";", false), -1000);
    due("; can't stand", runs(x, "a ;", false), -1002);
    due("13 letters", runs(x, times("a", 13), false), -1012);
    due("12 letters", runs(x, times("a ", 12), false), 1);
    due("THE TEXT is empty then", x.count(8), 0);
    due("no act", x.count(9), 1);
    TraceMachines y = new TraceMachines();
    due("without traces", runs(y, "a", false), 0);
    dueRan(y, 0, 0, NONE);
    due("without traces", runs(y, "", false), 0);
    dueRan(y, 0, 0, NONE);
    due("a trace without calls takes none", runs(of(""), "", true), 1);
  }

  private static void ran() {
    about("14 ran");
    TraceMachines x = of("ab");
    dueRan(x, NONE, NONE, NONE);
    runs(x, "a", false);
    dueRan(x, 1, 1, 1);
    runs(x, "k", false);
    dueRan(x, 1, 1, 1);
    x.drop(0);
    x.depth(3);
    x.keep(0);
    x.again(0);
    dueRan(x, 1, 1, 1);
    due("ran(3)", x.ran(3), NONE);
    due("ran(-1)", x.ran(-1), NONE);
    due("ran(MAX)", x.ran(MAX), NONE);
  }

  private static void cover() {
    about("15 cover");
    TraceMachines x = of("ab;ac;a");
    due("how many", x.cover(0), 2);
    due("they", x.cover(1), 3);
    due("what 2", x.cover(2), NONE);
    due("what -1", x.cover(-1), NONE);
    TraceMachines ties = of("ab;ab;ac;ac");
    due("of like ones", ties.cover(0), 2);
    due("the lowest", ties.cover(1), 5);
    ties.drop(0);
    due("found anew", ties.cover(1), 3);
    TraceMachines trap = of("abcd;abe;cdf");
    trap.depth(0);
    due("not the greatest first", trap.cover(1), 6);
    TraceMachines one = of("ab;cd;abcd");
    one.depth(0);
    due("one alone", one.cover(0), 1);
    due("that", one.cover(1), 4);
    // of two letters each: a b c d in a ring, {0, 2} or {1, 3} go all: 5 is below 10
    TraceMachines ring = of("ab;bc;cd;da");
    ring.depth(0);
    due("the ring", ring.cover(1), 5);
    // 0 and 3 go all, 1 and 2, too, and no other two: 6 is below 9
    TraceMachines low = of("ab;ac;bd;cd");
    low.depth(0);
    due("the lowest as a number", low.cover(1), 6);
    due("without edges", of(";").cover(0), 0);
    due("without edges", of(";").cover(1), 0);
    due("without traces", new TraceMachines().cover(0), 0);
    due("without traces", new TraceMachines().cover(1), 0);
    TraceMachines all = of("a;b;c;d;e;f;g;h;i;j;aa;ba;ca;da;ea;fa;ga;ha;ia;ja");
    all.depth(3);
    // by each letter one of two, and one of the last ten at least: that with a, and b .. j of the first ten
    due("ten of twenty", all.cover(0), 10);
    due("they", all.cover(1), 2046);
  }

  private static void ways() {
    about("16 ways");
    TraceMachines x = of("aaaa;aa;");
    x.drop(2);
    due("aaaa", x.ways(0), 6);
    due("aa", x.ways(1), 2);
    due("trace 2", x.ways(2), NONE);
    due("trace -1", x.ways(-1), NONE);
    x.depth(0);
    due("one state, one way", x.ways(0), 1);
    due("without calls", of("").ways(0), 1);
    TraceMachines y = of("aaabbaaababa;aaaaaaaabaaa;aababaabbaba;baa;aaaaaaabaaa;abaaaaaaabaa;abaaaaaabaaa;aa;baaaabaaabaa",
        "aabaaaabaaaa;aaaaa;babb;baaaa;a;aaaaaabaaaaa;baaaaaabaaaa;aabaa;aaaaaaaaaaaa;bbaaabbaabba;bbaaaaaaaaab");
    due("20 traces", y.count(0), 20);
    due("1,000,000 if more", y.ways(17), 1000000);
    due("a", y.ways(13), waysByHand(y, 13));
    due("aa", y.ways(7), waysByHand(y, 7));
  }

  /** Each way is gone alone. */
  private static int waysByHand(TraceMachines x, int trace) { return waysFrom(x, trace, 0, 0); }

  private static int waysFrom(TraceMachines x, int trace, int i, int state) {
    if (i == x.call(trace, NONE, 0)) return x.state(state, 2);
    int ways = 0;
    for (int e = 0; e < x.count(4); e++) {
      if (x.edge(e, 0) == state && x.edge(e, 1) == x.call(trace, i, 0)) ways += waysFrom(x, trace, i + 1, x.edge(e, 2));
    }
    return ways;
  }

  private static void words() {
    about("17 words");
    TraceMachines x = of("ab;ac;a");
    int[] some = {0, 1, 2, 0, 0, 0, 0, 0, 0};
    for (int n = 0; n <= 8; n++) due("words(" + n + ")", x.words(n), some[n]);
    due("words(9)", x.words(9), NONE);
    due("words(-1)", x.words(-1), NONE);
    TraceMachines y = of("aaaa;aa");
    for (int n = 0; n <= 8; n++) due("words(" + n + ") of a", y.words(n), n == 0 ? 0 : 1);
    due("the empty one", of(";ab").words(0), 1);
    TraceMachines all = of("abcdefghij");
    all.depth(0);
    due("ten letters", all.words(8), 100000000);
    due("without traces", new TraceMachines().words(3), 0);
    TraceMachines hundred = of("adcdbcecfdec;ceeebfbdbaaf;adccdafdaa;befeebaccaf;bccafdcadbcd;adcbffdcfe;daebdabcfeeb",
        "ceebfbdeefee;fbadeaffce;daebdabcfdce;bccadcceedcc;adccdafeaccb;efdcddcadada;fbadccccf;daebdaafabae",
        "efdecabbfaf;ceebfceacdea;fbadccceebfc;bdfdaeeedfdb;befeacbbecf");
    hundred.depth(2);
    for (int n = 0; n <= 8; n++) due("100 sets are not too many", hundred.words(n) >= 0, true);
    TraceMachines more = of("cbbeifhjdafh;idfeffddiahe;iaijhijaacag;bfjaghdgied;bfjagghjiabe;ijfbfdeceic;bjjighajdefh",
        "cbbjbgegjgfe;gafiaecdfbjg;djijibi;jbefbhfabdch;ehghgbbjhccb;eddgcejiddgd;hfdbaigjbbbg;jibcbccjjbec",
        "ffjdcggdjecc;ffjdgcgfaaf;acaeeahjfhdb;effjfjbfcfi;ijfbaebedae");
    more.depth(2);
    due("101 are", more.words(8), -2);
    due("not yet behind few letters", more.words(1) >= 0, true);
  }

  private static void apart() {
    about("18 apart");
    TraceMachines x = of("aaa");
    due("1, 2", x.apart(1, 2, NONE), 1);
    due("a", x.apart(1, 2, 0), 'a');
    due("behind it", x.apart(1, 2, 1), NONE);
    due("2, 1", x.apart(2, 1, NONE), 1);
    due("2, 3", x.apart(2, 3, NONE), 2);
    due("a", x.apart(2, 3, 1), 'a');
    due("the empty word", x.apart(0, 1, NONE), 0);
    due("has no letters", x.apart(0, 1, 0), NONE);
    for (int k = 0; k < 4; k++) due("none", x.apart(k, k, NONE), NONE);
    due("i -2", x.apart(1, 2, -2), NONE);
    due("k -1", x.apart(-1, 2, NONE), NONE);
    due("k 4", x.apart(4, 2, NONE), NONE);
    due("other -1", x.apart(1, -1, NONE), NONE);
    due("other 4", x.apart(1, 4, NONE), NONE);
    x.depth(3);
    due("whatever DEPTH is", x.apart(1, 2, NONE), 1);
    due("of 8 letters", word(of("bcdefghaaa"), 1, 2).equals("bcdefgha"), true);
    due("9 are too many", of("bcdefghiaaa").apart(1, 2, NONE), NONE);
    due("without traces", new TraceMachines().apart(0, 3, NONE), NONE);
    // by 1 "b" and "c" come to one state: bd, ca and cad are taken, too
    due("the least by letters", word(of("bxa;".replace("x", "e") + "cea;ced"), 1, 3).equals("bed"), true);
    x.drop(0);
    due("found anew", x.apart(1, 2, NONE), NONE);
  }

  private static void walk() {
    about("19 walk");
    TraceMachines x = of("ab;ac;a");
    // seed 0: 12,345, 628,841, 621,889; state 0: 0 of 3, a; state 1: 2 of 3, behind the end and b: c; then the end
    due("how many", x.walk(0, NONE), 2);
    due("a", x.walk(0, 0), 'a');
    due("c", x.walk(0, 1), 'c');
    due("behind it", x.walk(0, 2), NONE);
    due("i -2", x.walk(0, -2), NONE);
    due("seed -1", x.walk(-1, NONE), NONE);
    due("seed 1,000,000", x.walk(1000000, NONE), NONE);
    // seed 999,999: (1,103 (-4) and 12,345) = 7,933: a; 8,762,444 modulo 1,000,003 = 762,420: 0 of 3, the end
    due("seed 999,999", x.walk(999999, NONE), 1);
    due("without traces", new TraceMachines().walk(0, NONE), NONE);
    due("no letters", of("").walk(5, NONE), 0);
    due("no letters", of("").walk(5, 0), NONE);
    TraceMachines y = of("abababababab");
    y.depth(0);
    int lost = 0;
    for (int seed = 0; seed < 60; seed++) {
      String w = drawn(seed);
      boolean isLost = w.length() > 12;
      if (isLost) lost++;
      due("walk(" + seed + ")", y.walk(seed, NONE), isLost ? -2 : w.length());
      for (int i = 0; i < 13; i++) {
        due("its " + i + "th", y.walk(seed, i), i < 12 && i < w.length() ? w.charAt(i) : NONE);
      }
    }
    due("some are lost, some not", lost > 0 && lost < 60, true);
  }

  /** On one state, once ended in, six times left by a, six times by b. */
  private static String drawn(int seed) {
    String w = "";
    long s = seed;
    while (w.length() <= 12) {
      s = (1103 * s + 12345) % 1000003;
      if (s % 13 == 0) break;
      w += s % 13 <= 6 ? "a" : "b";
    }
    return w;
  }

  private static void rule() {
    about("20 rule");
    TraceMachines x = of("ab;ba;aab;c;b");
    int[][] due = {{3, 2}, {4, 2}, {3, 1}, {3, 1}, {4, 2}, {4, 1}};
    for (int kind = 0; kind < 6; kind++) {
      due("rule(" + kind + ", 0, 1, 0)", x.rule(kind, 0, 1, 0), due[kind][0]);
      due("rule(" + kind + ", 0, 1, 1)", x.rule(kind, 0, 1, 1), due[kind][1]);
    }
    TraceMachines y = of("acbcab;abab;abba;aba;bab;baab;aabb");
    // so: 0 all that end by b; 1 all that begin by a; 2 none; 3 abab alone (bab, too); 4, 5
    int[] so = {5, 5, 0, 2, 5, 2};
    for (int kind = 0; kind < 6; kind++) {
      due("asked, kind " + kind, y.rule(kind, 0, 1, 0), 7);
      due("so, kind " + kind, y.rule(kind, 0, 1, 1), so[kind]);
    }
    due("ahead, right behind: x at the end", of("aba").rule(3, 0, 1, 1), 0);
    due("kind 2: y, then x", of("bba").rule(2, 0, 1, 1), 1);
    due("kind 2: y between", of("aba").rule(2, 0, 1, 1), 0);
    due("kind 1: no x", of("b").rule(1, 0, 1, 1), 0);
    due("neither", of("cd").rule(4, 0, 1, 0), 0);
    due("j, i", of("ji").rule(5, 9, 8, 1), 1);
    int[][] others = {{-1, 0, 1, 0}, {6, 0, 1, 0}, {0, -1, 1, 0}, {0, 10, 1, 0}, {0, 0, -1, 0}, {0, 0, 10, 0},
        {0, 3, 3, 0}, {0, 0, 1, 2}, {0, 0, 1, -1}, {MIN, MAX, MIN, MAX}};
    for (int[] o : others) due("others", x.rule(o[0], o[1], o[2], o[3]), NONE);
    due("without traces", new TraceMachines().rule(0, 0, 1, 0), 0);
  }

  private static void rules() {
    about("21 rules");
    TraceMachines x = of("ab;ab");
    due("kind 0", x.rules(0, 2, NONE), 1);
    due("a, b", x.rules(0, 2, 0), 1);
    due("of 3", x.rules(0, 3, NONE), 0);
    due("kind 2", x.rules(2, 1, NONE), 17);
    due("a, c", x.rules(2, 1, 0), 2);
    due("b, a", x.rules(2, 1, 8), 10);
    due("b, j", x.rules(2, 1, 16), 19);
    due("behind", x.rules(2, 1, 17), NONE);
    due("i -2", x.rules(2, 1, -2), NONE);
    due("least 0", x.rules(2, 0, NONE), NONE);
    due("least 20", x.rules(2, 20, NONE), 0);
    due("least 21", x.rules(2, 21, NONE), NONE);
    due("kind -1", x.rules(-1, 1, NONE), NONE);
    due("kind 6", x.rules(6, 1, NONE), NONE);
    due("kind 4", x.rules(4, 2, NONE), 2);
    due("b, a", x.rules(4, 2, 1), 10);
    due("kind 5", x.rules(5, 2, NONE), 1);
    bring(x, "a");
    due("not of all", x.rules(0, 1, NONE), 0);
    due("asked of two alone", x.rules(1, 2, NONE), 1);
    due("without traces", new TraceMachines().rules(0, 1, NONE), 0);
    due("without traces", new TraceMachines().rules(0, 1, 0), NONE);
  }

  private static void dueOdd(TraceMachines x, int trace, int... told) {
    for (int what = 0; what < 3; what++) due("odd(" + trace + ", " + what + ")", x.odd(trace, what), told[what]);
  }

  private static void odd() {
    about("22 odd");
    TraceMachines x = of("ab;ab;ac;;d");
    dueOdd(x, 0, 2, 1, 2);
    dueOdd(x, 1, 2, 1, 3);
    dueOdd(x, 2, 1, 1, 0);
    dueOdd(x, 3, 999, 0, 4);
    dueOdd(x, 4, 1, 1, 1);
    due("trace 5", x.odd(5, 0), NONE);
    due("trace -1", x.odd(-1, 0), NONE);
    due("what 3", x.odd(0, 3), NONE);
    due("what -1", x.odd(0, -1), NONE);
    TraceMachines y = of("aa;bbb");
    y.depth(0);
    dueOdd(y, 0, 2, 2, 0);
    dueOdd(y, 1, 3, 3, 1);
    TraceMachines z = of("ab;cde");
    dueOdd(z, 0, 1, 2, 1);
    dueOdd(z, 1, 1, 3, 0);
  }

  private static void oddest() {
    about("23 oddest");
    TraceMachines x = of("ab;ab;ac;;d");
    int[] order = {2, 4, 0, 1, 3};
    for (int i = 0; i < 5; i++) due("oddest(" + i + ")", x.oddest(i), order[i]);
    due("oddest(5)", x.oddest(5), NONE);
    due("oddest(-1)", x.oddest(-1), NONE);
    due("more of them first", of("ab;cde").oddest(0), 1);
    due("without traces", new TraceMachines().oddest(0), NONE);
  }

  private static void held() {
    about("24 held");
    TraceMachines x = of("ab;ab;ac");
    due("like ones are two", x.held(0, 1, false), 1);
    due("no other has it", x.held(2, 1, false), 0);
    due("trace 3", x.held(3, 1, false), NONE);
    due("trace -1", x.held(-1, 1, true), NONE);
    due("k 4", x.held(0, 4, false), NONE);
    due("k -1", x.held(0, -1, false), NONE);
    due("without others", of("a").held(0, 0, false), 0);
    due("without others", of("").held(0, 1, false), 0);
    TraceMachines y = of("a1;a5;a3");
    due("between", y.held(2, 1, true), 1);
    due("below", y.held(0, 1, true), 0);
    due("not guarded", y.held(0, 1, false), 1);
    y.margin(2);
    due("by the margin", y.held(0, 1, true), 1);
    TraceMachines z = of("aa;aaa");
    due("aa of aaa by 1", z.held(0, 1, false), 1);
    due("aa of aaa by 3", z.held(0, 3, false), 0);
    due("all is as it was", z.count(0), 2);
    due("states", z.count(3), 3);
  }

  private static void fit() {
    about("25 fit");
    TraceMachines x = of("a1;a5;a3");
    due("not guarded", x.fit(1, 0), 3);
    due("guarded", x.fit(1, 1), 1);
    x.margin(2);
    due("guarded by 2", x.fit(1, 1), 3);
    x.undo();
    due("guarded by 0", x.fit(1, 1), 1);
    due("states by 1", x.fit(1, 2), 2);
    due("states by 0", x.fit(0, 2), 1);
    due("k 4", x.fit(4, 0), NONE);
    due("k -1", x.fit(-1, 2), NONE);
    due("what 3", x.fit(1, 3), NONE);
    due("what -1", x.fit(1, -1), NONE);
    TraceMachines y = of("aaa");
    for (int k = 0; k < 4; k++) due("states by " + k, y.fit(k, 2), k + 1);
    due("none", y.fit(0, 0), 0);
    due("without traces", new TraceMachines().fit(2, 0), 0);
    due("without traces", new TraceMachines().fit(2, 2), 0);
  }

  private static void best() {
    about("26 best");
    TraceMachines x = of("a1;a5;a3");
    due("most states, the least", x.best(0), 1);
    due("how many", x.best(1), 3);
    due("what 2", x.best(2), NONE);
    due("what -1", x.best(-1), NONE);
    due("none of all", of("aaa").best(0), 3);
    due("none of all", of("aaa").best(1), 0);
    // aa is taken of aaa by 0, 1, 2, aaa of aa by 0, 1: both by 0 and 1, of which 1 has more states
    due("most traces first", of("aa;aaa").best(0), 1);
    due("both", of("aa;aaa").best(1), 2);
    due("without traces", new TraceMachines().best(0), NONE);
    due("without traces", new TraceMachines().best(1), NONE);
  }

  private static void keepAndAgain() {
    about("27 keep, 28 again");
    TraceMachines x = of("a1;b2");
    due("nothing kept", x.again(0), false);
    due("keep(2)", x.keep(2), false);
    due("keep(-1)", x.keep(-1), false);
    due("again(2)", x.again(2), false);
    due("again(-1)", x.again(-1), false);
    x.depth(3);
    x.margin(7);
    due("keep(0)", x.keep(0), true);
    due("keeping is no act", x.count(9), 3);
    due("nothing under 1", x.again(1), false);
    due("nothing was undone by that", x.count(9), 3);
    x.drop(0);
    x.depth(0);
    x.margin(1);
    due("keep(1)", x.keep(1), true);
    tell(x, "abc");
    due("again(0)", x.again(0), true);
    due("THE TEXT stays", x.count(8), 3);
    due("traces", x.count(0), 2);
    due("the first", x.call(0, 0, 0), 'a');
    due("depth", x.count(6), 3);
    due("margin", x.count(7), 7);
    due("nothing can be undone", x.count(9), 0);
    due("undo", x.undo(), -3);
    x.drop(1);
    due("again(0) again", x.again(0), true);
    due("as they were kept", x.count(0), 2);
    due("again(1)", x.again(1), true);
    due("traces", x.count(0), 1);
    due("the second one", x.call(0, 0, 0), 'b');
    due("depth", x.count(6), 0);
    due("margin", x.count(7), 1);
    due("kept anew", x.keep(0), true);
    due("again(0)", x.again(0), true);
    due("traces", x.count(0), 1);
    TraceMachines none = new TraceMachines();
    due("nothing is something to keep", none.keep(1), true);
    bring(none, "a");
    due("again(1)", none.again(1), true);
    due("no traces", none.count(0), 0);
  }

  private static void count() {
    about("29 count");
    TraceMachines x = of("a1b20;a5c9;a3");
    x.margin(6);
    x.depth(2);
    tell(x, "abc");
    int[] counts = {3, 5, 4, 3, 3, 2, 2, 6, 3, 3};
    for (int what = 0; what < 10; what++) due("count(" + what + ")", x.count(what), counts[what]);
    due("count(10)", x.count(10), NONE);
    due("count(-1)", x.count(-1), NONE);
    due("count(MAX)", x.count(MAX), NONE);
    x.depth(0);
    due("states by 0", x.count(3), 1);
    due("edges by 0", x.count(4), 3);
    due("final by 0", x.count(5), 1);
  }

  /** All that is asked is found from what is there when it is asked, whatever was asked before. */
  private static void foundAnew() {
    about("terms 3: found when it is asked");
    TraceMachines x = of("ab;ac;a");
    x.keep(0);
    dueFound(x, 3, 3, 3, 0);
    bring(x, "aa");
    // 0 "": a; 1 a: a b c $; 2 ab, ac, aa: $
    dueFound(x, 3, 4, 11, 0);
    x.depth(0);
    // b and c are of one trace each: a and aa are taken by others
    dueFound(x, 1, 3, 3, 2);
    x.undo();
    dueFound(x, 3, 4, 11, 0);
    x.again(0);
    dueFound(x, 3, 3, 3, 0);
    x.drop(0);
    // 0 "": a; 1 a: c $; 2 ac: $
    dueFound(x, 3, 2, 1, 0);
    x.drop(0);
    dueFound(x, 2, 1, 1, 0);
    TraceMachines y = of("aaa");
    due("by 1, 2", y.apart(1, 2, NONE), 1);
    due("by 2, 3", y.apart(2, 3, NONE), 2);
    due("by 1, 2 again", y.apart(1, 2, NONE), 1);
    due("by 1, 3", y.apart(1, 3, NONE), 1);
  }

  private static void dueFound(TraceMachines x, int states, int edges, int cover, int fit) {
    due("count(3)", x.count(3), states);
    due("count(4)", x.count(4), edges);
    due("cover(1)", x.cover(1), cover);
    due("fit by the DEPTH", x.fit(x.count(6), 0), fit);
  }
}
