import java.util.NoSuchElementException;

/** Promises 1 to 14 (texts, acts, what there is, runs), sentence by sentence. */
final class SentencesOfPromises extends Sentences {
  SentencesOfPromises() {
    newObject();
    sign();
    end();
    traces();
    drop();
    depth();
    margin();
    undo();
    call();
    state();
    edge();
    vague();
    run();
    ran();
  }

  private void newObject() {
    below("What it is");
    says("An object is used for at most 512 calls after it has been made; what later calls answer is free.", () -> {
      TraceMachines x = new TraceMachines();
      x.sign(0x61623b61);
      x.sign(0x633b6120);
      x.traces();
      for (int calls = 4; calls < 512; calls++) due("call " + calls, x.walk(calls, 0), 'a');
      due("the last", x.cover(1), 3);
    });
    below("Promise 1");
    says("No TRACES.", () -> {
      TraceMachines x = new TraceMachines();
      int[] counts = {0, 0, 0, 0, 0, 0, 1, 0, 0, 0};
      for (int what = 0; what < 10; what++) due("count(" + what + ")", x.count(what), counts[what]);
      due("two objects share nothing", bring(new TraceMachines(), "a;b"), 2);
      due("none yet", x.count(0), 0);
      due("nothing to undo", x.undo(), -3);
      due("nothing kept", x.again(0) || x.again(1), false);
      dueRan(x, NONE, NONE, NONE);
    });
  }

  private void sign() {
    below("Promise 2");
    says("Four signs come behind THE TEXT, of v the highest byte first: how many it has.", () -> {
      TraceMachines x = new TraceMachines();
      due("a2b9", x.sign(0x61326239), 4);
      due("c10d", x.sign(0x63313064), 8);
      due("of one digit more", x.end(7), true);
      due("four behind seven", x.sign(0x65202020), 11);
      due("traces()", x.traces(), 1);
      due("letters", letters(x, 0), "abce");
      int[] values = {2, 9, 10, 0};
      for (int i = 0; i < 4; i++) due("value " + i, x.call(0, i, 1), values[i]);
      due("signs of one byte: 225 is no a", x.sign(0xe1202020), 4);
      due("a fault", x.traces(), -1000);
      due("v below 0", x.sign(-1), 4);
      due("a fault", x.traces(), -1000);
      due("a 0 is a sign, too", x.sign(0), 4);
      due("and of bytes below 128 each", x.sign(0x7f7f7f7f), 8);
    });
    says("NONE, and none comes: there would be more than 240.", () -> {
      TraceMachines x = new TraceMachines();
      for (int i = 0; i < 59; i++) x.sign(0x20202020);
      due("the 60th", x.sign(0x61202020), 240);
      due("a 61st", x.sign(0x78787878), NONE);
      due("none came", x.count(8), 240);
      x.end(239);
      due("behind 239", x.sign(0x78787878), NONE);
      due("none came", x.count(8), 239);
      x.end(237);
      due("behind 237", x.sign(0x78787878), NONE);
      due("none came", x.count(8), 237);
      due("all as it was", x.traces(), 1);
      due("the a", letters(x, 0), "a");
      for (int i = 0; i < 60; i++) x.sign(0x20202020);
      x.end(236);
      due("behind 236", x.sign(0x20202020), 240);
    });
  }

  private void end() {
    below("Promise 3");
    says("THE TEXT has its first n signs alone: true;", () -> {
      TraceMachines x = new TraceMachines();
      tell(x, "abcd");
      due("end(4)", x.end(4), true);
      due("all", x.count(8), 4);
      due("end(2)", x.end(2), true);
      due("two", x.count(8), 2);
      tell(x, "e");
      x.traces();
      due("the first two, and what came then", letters(x, 0), "abe");
      due("end(0) of none", x.end(0), true);
      tell(x, "xyz");
      due("end(0)", x.end(0), true);
      due("none", x.count(8), 0);
    });
    says("false: it has not so many, n below 0.", () -> {
      TraceMachines x = new TraceMachines();
      due("end(1) of none", x.end(1), false);
      tell(x, "abcd");
      for (int n : new int[] {5, 6, 240, 241, MAX, -1, -4, MIN}) due("end(" + n + ")", x.end(n), false);
      due("four", x.count(8), 4);
      x.end(2);
      due("what was cut off is gone", x.end(3), false);
      due("two", x.count(8), 2);
    });
  }

  private void traces() {
    below("Promise 4");
    says("TRACES of THE TEXT come: how many there are then.", () -> {
      TraceMachines x = new TraceMachines();
      due("one", bring(x, "ab"), 1);
      due("three", bring(x, "c;d"), 3);
      due("they", letters(x, 0) + letters(x, 1) + letters(x, 2), "abcd");
      due("twenty", bring(x, ";".repeat(16)), 20);
    });
    says("-1000 and less by p: a FAULT at p.", () -> {
      TraceMachines x = new TraceMachines();
      dueFault(x, "x", 0);
      dueFault(x, "ax", 1);
      dueFault(x, " ".repeat(239) + "x", 239);
      due("none came", x.count(0), 0);
      dueFault(of(";".repeat(19)), " ".repeat(240), 240);
    });
  }

  private void drop() {
    below("Promise 5");
    says("A TRACE goes, those behind it have one number less: how many are left.", () -> {
      TraceMachines x = of("a1;b2b3;c4;d5");
      due("drop(1)", x.drop(1), 3);
      due("they", letters(x, 0) + letters(x, 1) + letters(x, 2), "acd");
      due("their values", x.call(1, 0, 1) + 10 * x.call(2, 0, 1), 54);
      due("the last", x.drop(2), 2);
      due("the first", x.drop(0), 1);
      due("c is left", letters(x, 0), "c");
      due("the last one", x.drop(0), 0);
      TraceMachines full = of(";".repeat(18) + "a");
      bring(full, "b");
      due("of twenty", full.drop(0), 19);
      due("the last", letters(full, 18), "b");
      due("room again", bring(full, "c"), 20);
    });
    says("-2.", () -> {
      TraceMachines x = of("a;b");
      for (int t : new int[] {2, 3, 20, -1, MIN, MAX}) due("drop(" + t + ")", x.drop(t), -2);
      due("none went", x.count(0), 2);
      due("no act", x.count(9), 1);
      due("of none", new TraceMachines().drop(0), -2);
    });
  }

  private void depth() {
    below("Promise 6");
    says("DEPTH (0 .. 3): what it was.", () -> {
      TraceMachines x = of("aaa");
      due("0", x.depth(0), 1);
      due("3", x.depth(3), 0);
      due("2", x.depth(2), 3);
      due("1", x.depth(1), 2);
      due("it is", x.count(6), 1);
    });
    says("-1;", () -> {
      TraceMachines x = new TraceMachines();
      for (int k : new int[] {-1, 4, MIN, MAX}) due("depth(" + k + ")", x.depth(k), -1);
      due("it is", x.count(6), 1);
      due("no act", x.count(9), 0);
    });
    says("-3.", () -> {
      TraceMachines x = new TraceMachines();
      due("at first", x.depth(1), -3);
      x.depth(3);
      due("again", x.depth(3), -3);
      due("acts", x.count(9), 1);
      x.undo();
      due("as it was", x.depth(1), -3);
    });
  }

  private void margin() {
    below("Promise 7");
    says("MARGIN (0 .. 20): what it was.", () -> {
      TraceMachines x = new TraceMachines();
      due("20", x.margin(20), 0);
      due("1", x.margin(1), 20);
      due("0", x.margin(0), 1);
      due("it is", x.count(7), 0);
    });
    says("-1;", () -> {
      TraceMachines x = new TraceMachines();
      for (int w : new int[] {-1, 21, MIN, MAX}) due("margin(" + w + ")", x.margin(w), -1);
      due("it is", x.count(7), 0);
      due("no act", x.count(9), 0);
    });
    says("-3.", () -> {
      TraceMachines x = new TraceMachines();
      due("at first", x.margin(0), -3);
      x.margin(20);
      due("again", x.margin(20), -3);
      due("acts", x.count(9), 1);
    });
  }

  private void undo() {
    below("Promise 8");
    says("The latest act is undone: how many can be yet.", () -> {
      TraceMachines x = of("a1;b2");
      x.depth(3);
      x.margin(5);
      x.drop(0);
      tell(x, "abc");
      due("drop", x.undo(), 3);
      due("the first is back", letters(x, 0) + letters(x, 1), "ab");
      due("THE TEXT stays", x.count(8), 3);
      due("margin", x.undo(), 2);
      due("it is", x.count(7), 0);
      due("depth", x.undo(), 1);
      due("it is", x.count(6), 1);
      due("traces", x.undo(), 0);
      due("none", x.count(0), 0);
      for (int w = 1; w <= 11; w++) x.margin(w);
      for (int left = 7; left >= 0; left--) due("of eleven eight", x.undo(), left);
      due("behind three", x.count(7), 3);
      x.margin(8);
      due("one more", x.undo(), 0);
      due("it is", x.count(7), 3);
    });
    says("-3: none.", () -> {
      TraceMachines x = new TraceMachines();
      due("of a new one", x.undo(), -3);
      x.depth(0);
      x.undo();
      due("all undone", x.undo(), -3);
      due("it is", x.count(6), 1);
      x.keep(0);
      x.depth(0);
      x.again(0);
      due("behind again()", x.undo(), -3);
    });
  }

  private static boolean noSuch(TraceMachines x, int trace, int i, int what) {
    try {
      x.call(trace, i, what);
      return false;
    } catch (NoSuchElementException e) {
      return true;
    }
  }

  private void call() {
    below("Promise 9");
    says("CALLS of a TRACE: how many (i NONE, what 0);", () -> {
      TraceMachines x = of("a1b20;;abcdefghijab");
      int[] calls = {2, 0, 12};
      for (int t = 0; t < 3; t++) due("calls of " + t, x.call(t, NONE, 0), calls[t]);
    });
    says("of the i-th the LETTER's sign (what 0), VALUE (1), its PREFIX with it (2), the STATE of that (3).", () -> {
      // 0 "": a; 1 a: b c $; 2 ab, ac: $
      TraceMachines x = of("a1b20;a5c;a");
      int[][] first = {{'a', 1, 1, 1}, {'b', 20, 2, 2}};
      int[][] second = {{'a', 5, 1, 1}, {'c', 0, 3, 2}};
      for (int i = 0; i < 2; i++) {
        for (int what = 0; what < 4; what++) {
          due("call(0, " + i + ", " + what + ")", x.call(0, i, what), first[i][what]);
          due("call(1, " + i + ", " + what + ")", x.call(1, i, what), second[i][what]);
        }
      }
      due("j99, the twelfth", of("abcdefghijaj99").call(0, 11, 0) + of("abcdefghijaj99").call(0, 11, 1), 'j' + 99);
    });
    says("NoSuchElementException: no such TRACE;", () -> {
      TraceMachines x = of("a;b");
      for (int t : new int[] {2, 20, -1, MIN, MAX}) due("trace " + t, noSuch(x, t, 0, 0), true);
      due("whatever else is wrong", noSuch(x, 2, -7, 9), true);
      due("of a new one", noSuch(new TraceMachines(), 0, NONE, 0), true);
      x.drop(0);
      due("of one that went", noSuch(x, 1, 0, 0), true);
      due("not of one that is", noSuch(x, 0, -7, 9), false);
    });
    says("NONE: others.", () -> {
      TraceMachines x = of("ab;");
      for (int what : new int[] {1, 2, 3, 4, -1, MIN, MAX}) due("i NONE, what " + what, x.call(0, NONE, what), NONE);
      for (int i : new int[] {2, 12, -2, MIN, MAX}) {
        for (int what = 0; what < 4; what++) due("i " + i, x.call(0, i, what), NONE);
      }
      for (int what : new int[] {4, 5, -1, MIN, MAX}) due("what " + what, x.call(0, 0, what), NONE);
      due("of no calls", x.call(1, 0, 0), NONE);
      x.drop(0);
      due("of no calls where others were", x.call(0, 0, 1), NONE);
    });
  }

  private void state() {
    below("Promise 10");
    says("Of a STATE its least PREFIX (what 0), how many PREFIXES it has (1), 1 if FINAL, else 0 (2), how many TRACES end in "
        + "it (3), its EDGES (4), all their SUPPORTS (5), of how many rows FOLLOWS is (6).", () -> {
      TraceMachines x = of("a1b20;a5c9;a3");
      String[] due = {"0 1 0 0 1 3 1", "1 1 1 1 2 2 3", "2 2 1 2 0 0 1"};
      for (int s = 0; s < 3; s++) due("state " + s, state(x, s), due[s]);
      due("by 0", state(ofDepth(0, "ab;ac;a"), 0), "0 4 1 3 3 5 1");
      due("of no calls", state(of(";;"), 0), "0 1 1 3 0 0 1");
      due("of twenty", state(of(";".repeat(19)), 0), "0 1 1 20 0 0 1");
    });
    says("NONE: no such STATE, others.", () -> {
      TraceMachines x = of("ab");
      for (int s : new int[] {3, 4, 240, 241, -1, MIN, MAX}) due("state " + s, x.state(s, 0), NONE);
      for (int what : new int[] {7, 8, -1, MIN, MAX}) due("what " + what, x.state(0, what), NONE);
      due("without traces", new TraceMachines().state(0, 0), NONE);
      x.depth(0);
      due("of fewer", x.state(1, 0), NONE);
    });
  }

  private void edge() {
    below("Promise 11");
    says("The i-th EDGE in order: its STATE (what 0), its LETTER's sign (1), the STATE to which it goes (2), SUPPORT (3), the "
        + "least VALUE (4), the greatest (5).", () -> {
      TraceMachines x = of("a1b20;a5c9;a3;d7");
      String[] due = {"0 a 1, 3 of 1 to 5", "0 d 2, 1 of 7 to 7", "1 b 2, 1 of 20 to 20", "1 c 2, 1 of 9 to 9"};
      for (int i = 0; i < 4; i++) due("edge " + i, edge(x, i), due[i]);
    });
    says("NONE: others.", () -> {
      TraceMachines x = of("ab");
      for (int i : new int[] {2, 3, 240, 241, -1, MIN, MAX}) due("edge " + i, x.edge(i, 0), NONE);
      for (int what : new int[] {6, 7, -1, MIN, MAX}) due("what " + what, x.edge(0, what), NONE);
      due("without traces", new TraceMachines().edge(0, 0), NONE);
      due("without calls", of("").edge(0, 3), NONE);
    });
  }

  private void vague() {
    below("Promise 12");
    says("Pairs of EDGES from one STATE by one LETTER to unlike ones (what 0),", () -> {
      due("three of one state", of("aaaa;aa").vague(0), 3);
      due("one", of("aaa").vague(0), 1);
      due("by unlike letters", of("ab;ac;a").vague(0), 0);
      // by 1 a and b come to one state, by 2 to two
      due("of one state", of("ac;bcd").vague(0), 1);
      due("of unlike states", ofDepth(2, "ac;bcd").vague(0), 0);
      due("without traces", new TraceMachines().vague(0), 0);
    });
    says("of these those whose RANGES, MARGIN wider on both sides, have a VALUE in common (1).", () -> {
      // 0 a 0 of 1 to 2, 0 a 1 of 9
      TraceMachines x = of("a1a2a9");
      int[] margins = {0, 3, 4, 20};
      int[] due = {0, 0, 1, 1};
      for (int i = 0; i < 4; i++) {
        x.margin(margins[i]);
        due("by " + margins[i], x.vague(1), due[i]);
        due("all", x.vague(0), 1);
      }
      TraceMachines above = of("a9a8a2");
      above.margin(2);
      due("by 2", above.vague(1), 0);
      above.margin(3);
      due("by 3", above.vague(1), 1);
      due("of just one value", of("a1a5a5").vague(1), 1);
      due("of none", of("a1a5a6").vague(1), 0);
      TraceMachines far = of("a0a0a99");
      far.margin(20);
      due("far apart", far.vague(1), 0);
      due("without traces", new TraceMachines().vague(1), 0);
    });
    says("NONE: others.", () -> {
      for (int what : new int[] {2, 3, -1, MIN, MAX}) due("what " + what, of("aaa").vague(what), NONE);
    });
  }

  private void run() {
    below("Promise 13");
    says("THE TEXT, one TRACE (; can't stand there), RUNS: 1 if it is TAKEN, else 0.", () -> {
      TraceMachines x = of("a1b;");
      due("taken", runs(x, "a1b", true), 1);
      due("not", runs(x, "a", true), 0);
      due("an empty one", runs(x, "", true), 1);
      due(";", runs(x, ";", true), -1000);
      due("ab;", runs(x, "ab;", true), -1002);
      due("guarded", runs(x, "a2b", true), 0);
      due("not guarded", runs(x, "a2b", false), 1);
      due("no trace came", x.count(0), 2);
    });
    says("-1000 and less by p: a FAULT at p.", () -> {
      TraceMachines x = of("ab");
      due("x", runs(x, "x", false), -1000);
      due("a1 2", runs(x, "a1 2", false), -1003);
      due("a123", runs(x, "a123", false), -1003);
      due("thirteen", runs(x, "abababababab  a", false), -1014);
      due("twelve", runs(x, "abababababab   ", false), 0);
      due("the last of 240", runs(x, " ".repeat(239) + ";", false), -1239);
    });
  }

  private void ran() {
    below("Promise 14");
    says("Of the latest run(): at which CALL it FAILED (what 0; how many CALLS, if at the end; NONE: it was TAKEN),", () -> {
      TraceMachines x = of("abc");
      String[] texts = {"b", "ac", "abcc", "", "a", "ab", "abc"};
      int[] at = {0, 1, 3, 0, 1, 2, NONE};
      for (int i = 0; i < 7; i++) {
        runs(x, texts[i], false);
        due("ran(0) of " + texts[i], x.ran(0), at[i]);
      }
    });
    says("how many STATES were in the set when it ended (1; that which became empty: 0),", () -> {
      TraceMachines x = of("aaaa;aa");
      runs(x, "a", false);
      due("three", x.ran(1), 3);
      runs(x, "aaaa", false);
      due("three", x.ran(1), 3);
      runs(x, "ab", false);
      due("none", x.ran(1), 0);
      runs(x, "", false);
      due("the first", x.ran(1), 1);
      runs(new TraceMachines(), "", false);
      due("of another object", x.ran(1), 1);
    });
    says("the least of these (2; NONE).", () -> {
      TraceMachines x = of("aaa;b");
      // 0 "": a b; 1 a, aa: a; 2 aaa, b: $
      String[] texts = {"", "a", "aa", "b", "c", "ba"};
      int[] least = {0, 1, 1, 2, NONE, NONE};
      for (int i = 0; i < 6; i++) {
        runs(x, texts[i], false);
        due("ran(2) of " + texts[i], x.ran(2), least[i]);
      }
    });
    says("NONE: ahead of any, others.", () -> {
      TraceMachines x = of("ab");
      dueRan(x, NONE, NONE, NONE);
      runs(x, "x", false);
      dueRan(x, NONE, NONE, NONE);
      runs(x, "a", false);
      for (int what : new int[] {3, 4, -1, MIN, MAX}) due("ran(" + what + ")", x.ran(what), NONE);
    });
  }
}
