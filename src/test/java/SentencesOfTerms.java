/** The document's terms 1 and 2 (texts, faults, states, edges, runs), sentence by sentence. */
final class SentencesOfTerms extends Sentences {
  SentencesOfTerms() {
    below("Terms");
    texts();
    faults();
    states();
    edges();
    running();
  }

  private void texts() {
    says("THE TEXT (240 signs at most) of TRACES: TRACE {; TRACE}.", () -> {
      TraceMachines x = new TraceMachines();
      for (int i = 1; i <= 60; i++) due("sign", x.sign(0x20202020), 4 * i);
      due("more than 240", x.sign(0x20202020), NONE);
      due("signs", x.count(8), 240);
      due("a full text", x.traces(), 1);
      due("a;b;c", bring(x, "a;b;c"), 4);
      due("the last", letters(x, 3), "c");
    });
    says("TRACE: none, or CALLS:", () -> {
      due(";", bring(new TraceMachines(), ";"), 2);
      TraceMachines x = of("a;;bc;");
      due("four", x.count(0), 4);
      int[] calls = {1, 0, 2, 0};
      for (int t = 0; t < 4; t++) due("calls of " + t, x.call(t, NONE, 0), calls[t]);
    });
    says("LETTER a .. j,", () -> {
      due("all ten", letters(of("abcdefghij"), 0), "abcdefghij");
      dueFault(new TraceMachines(), "`", 0);
      dueFault(new TraceMachines(), "k", 0);
      dueFault(new TraceMachines(), "aA", 1);
      dueFault(new TraceMachines(), "a\u00e1", 1);
    });
    says("perhaps a number of 1 or 2 digits right behind it (its VALUE; 0 without).", () -> {
      TraceMachines x = of("ab0c9d10e99f00g05h90");
      int[] values = {0, 0, 9, 10, 99, 0, 5, 90};
      for (int i = 0; i < 8; i++) due("value " + i, x.call(0, i, 1), values[i]);
      due("eight calls", x.call(0, NONE, 0), 8);
      dueFault(x, "a/", 1);
      dueFault(x, "a:", 1);
    });
    says("Blanks (32) may stand ahead of LETTERS and ;, and at the end.", () -> {
      TraceMachines x = of("  a  b12  ;  c  ");
      due("two", x.count(0), 2);
      due("a, b", letters(x, 0), "ab");
      due("blanks alone", bring(x, "     "), 3);
      due("no calls", x.call(2, NONE, 0), 0);
      due("blanks about ;", bring(x, " ; "), 5);
      for (int sign : new int[] {0, 9, 10, 13, 31, 33, 160, 255}) dueFault(x, "a" + (char) sign, 1);
    });
    says("12 CALLS in a TRACE at most.", () -> {
      TraceMachines x = of("abcdefghijab;a1b2c3d4e5f6g7h8i9j10a11b12");
      due("twelve", x.call(0, NONE, 0), 12);
      due("twelve", x.call(1, NONE, 0), 12);
      due("the twelfth's value", x.call(1, 11, 1), 12);
      due("a thirteenth", bring(x, "abcdefghijabc") < 0, true);
      due("a run of twelve", runs(x, "abcdefghijab", false), 1);
    });
    says("TRACES 0 .. (20 at most), behind those that there are;", () -> {
      TraceMachines x = of("a;b");
      due("behind", bring(x, "c"), 3);
      due("the first", letters(x, 0), "a");
      due("the last", letters(x, 2), "c");
      due("twenty", bring(x, ";".repeat(16)), 20);
      due("a 21st", bring(x, "d") < 0, true);
      due("twenty at once", bring(new TraceMachines(), ";".repeat(19)), 20);
      due("twenty-one at once", bring(new TraceMachines(), ";".repeat(20)) < 0, true);
    });
    says("like ones are two.", () -> {
      TraceMachines x = of("a1b;a1b");
      due("two", x.count(0), 2);
      due("and more", bring(x, "a1b"), 3);
      due("gone by each", x.edge(0, 3), 3);
    });
    says("An empty THE TEXT is one TRACE without CALLS.", () -> {
      TraceMachines x = new TraceMachines();
      due("traces()", x.traces(), 1);
      due("its calls", x.call(0, NONE, 0), 0);
      due("one state", x.count(3), 1);
      due("run()", x.run(false), 1);
    });
  }

  private void faults() {
    says("FAULT, the first sign from the left that makes one:", () -> {
      TraceMachines x = new TraceMachines();
      dueFault(x, "kx", 0);
      dueFault(x, "a;x;y", 2);
      dueFault(x, "a1234k", 3);
      dueFault(x, "xabcdefghijabc", 0);
      dueFault(x, "abcdefghijabck", 12);
      dueFault(x, ";".repeat(19) + "x;", 19);
      dueFault(x, ";".repeat(20) + "x", 20);
      dueFault(x, "a".repeat(13) + ";".repeat(20), 12);
    });
    says("one that can't stand there (a third digit, too),", () -> {
      TraceMachines x = new TraceMachines();
      dueFault(x, "1", 0);
      dueFault(x, "  9a", 2);
      dueFault(x, "a;7", 2);
      dueFault(x, "a123", 3);
      dueFault(x, "a000", 3);
      dueFault(x, "a12,", 3);
      dueFault(x, "ab,c", 2);
      dueFault(x, "\0", 0);
      dueFault(x, "abc\u00ff", 3);
      due("nothing came", x.count(0), 0);
    });
    says("the 13th LETTER of a TRACE,", () -> {
      TraceMachines x = new TraceMachines();
      dueFault(x, "abcdefghijabc", 12);
      dueFault(x, "a1b1c1d1e1f1g1h1i1j1a1b1c1", 24);
      dueFault(x, "a;abcdefghijab  c", 16);
      due("counted anew behind ;", bring(x, "abcdefghijab;abcdefghijab"), 2);
      due("in run(), too", runs(x, "abcdefghijabc", false), -1012);
    });
    says("the first sign (or ; or the end) of a TRACE for which there is no room.", () -> {
      TraceMachines x = of(";".repeat(18));
      dueFault(x, "a;b", 2);
      dueFault(x, "a12;b", 4);
      dueFault(x, "a;;", 2);
      dueFault(x, "a;", 2);
      dueFault(x, "a;  b", 4);
      dueFault(x, "a;  ", 4);
      due("room for one", bring(x, "a"), 20);
      dueFault(x, "", 0);
      dueFault(x, ";", 0);
      dueFault(x, "b", 0);
      dueFault(x, "abcdefghijabc", 0);
      due("a run needs no room", runs(x, "a", false), 1);
    });
  }

  private void states() {
    says("DEPTH k (0 .. 3; 1 at first).", () -> {
      TraceMachines x = of("aaa");
      due("at first", x.count(6), 1);
      due("states by 1", x.count(3), 2);
      int[] order = {0, 2, 3, 1};
      int[] states = {1, 3, 4, 2};
      for (int i = 0; i < 4; i++) {
        due("depth(" + order[i] + ")", x.depth(order[i]) >= 0, true);
        due("states", x.count(3), states[i]);
      }
      due("-1", x.depth(-1), -1);
      due("4", x.depth(4), -1);
    });
    says("PREFIXES: all beginnings of TRACES by LETTERS, the empty one, too, numbered as they are met, TRACE by TRACE, "
        + "from the empty one (0) on.", () -> {
      TraceMachines x = of("ba;aba;a");
      due("with the empty one", x.count(2), 6);
      int[][] numbers = {{1, 2}, {3, 4, 5}, {3}};
      for (int t = 0; t < 3; t++) {
        for (int i = 0; i < numbers[t].length; i++) due("prefix " + t + " " + i, x.call(t, i, 2), numbers[t][i]);
      }
      due("the empty one", x.state(0, 0), 0);
      due("by letters, not by values", of("a1b2;a3b4").count(2), 3);
      due("of a trace without calls", of("").count(2), 1);
      due("no more than these", of("abcdefghijab;" + "abcdefghijab;".repeat(9) + "abcdefghijab").count(2), 13);
    });
    says("WHAT FOLLOWS a PREFIX: for each TRACE that begins with it the next k LETTERS, or as many as there are and that "
        + "it ENDS then (fewer than k).", () -> {
      // by 2: "": ab cb; a: b$; ab: $; c: bd; cb: d$; cbd: $
      TraceMachines x = ofDepth(2, "ab;cbd");
      due("states", x.count(3), 5);
      due("b and the end is not b, d", x.call(0, 0, 3) == x.call(1, 0, 3), false);
      due("the end is the end", x.call(0, 1, 3), x.call(1, 2, 3));
      // by 3: "": ab$ abc; a: b$ bc$; ab: $ c$; abc: $
      TraceMachines y = ofDepth(3, "ab;abc");
      due("rows of the first", y.state(0, 6), 2);
      due("rows of a", y.state(1, 6), 2);
      due("rows of ab", y.state(2, 6), 2);
      due("rows of abc", y.state(3, 6), 1);
      due("two letters, no third", ofDepth(2, "abc;abd").state(0, 6), 1);
      due("three letters", ofDepth(3, "abc;abd").state(0, 6), 2);
      due("of traces that begin with it alone", of("ab;cd").state(1, 6), 1);
      due("like rows are one", of("ab;ab").state(0, 6), 1);
    });
    says("STATES: PREFIXES of which the same FOLLOWS are one; numbered by their least PREFIXES; STATE 0 is that of "
        + "PREFIX 0.", () -> {
      // 0 "": a b; 1 b: a; 2 ba: $; 3 a: b $; 4 ab: a; 5 aba: $
      TraceMachines x = of("ba;aba;a");
      due("states", x.count(3), 4);
      int[] least = {0, 1, 2, 3};
      int[] prefixes = {1, 2, 2, 1};
      for (int s = 0; s < 4; s++) {
        due("least prefix of " + s, x.state(s, 0), least[s]);
        due("prefixes of " + s, x.state(s, 1), prefixes[s]);
      }
      due("ab", x.call(1, 1, 3), 1);
      due("a", x.call(2, 0, 3), 3);
      // 0 "", a: a; 1 aa: $: a state's number is not that of its least prefix
      due("least prefix of 1", of("aa").state(1, 0), 2);
      due("0 has more of them", of("aa").state(0, 1), 2);
    });
    says("(Without TRACES there are no PREFIXES, no STATES.)", () -> {
      TraceMachines x = new TraceMachines();
      due("prefixes", x.count(2), 0);
      due("states", x.count(3), 0);
      due("edges", x.count(4), 0);
      due("state(0, 0)", x.state(0, 0), NONE);
      bring(x, "a");
      x.drop(0);
      due("prefixes", x.count(2), 0);
      due("states", x.count(3), 0);
      due("state(0, 0)", x.state(0, 0), NONE);
    });
    says("A STATE is FINAL, if a TRACE ends in one of its PREFIXES.", () -> {
      TraceMachines x = of("ab;a;cab");
      // 0 "": a c; 1 a: b $; 2 ab: $; 3 c: a; 4 ca: b; 2 cab: $
      int[] finals = {0, 1, 1, 0, 0};
      for (int s = 0; s < 5; s++) due("final " + s, x.state(s, 2), finals[s]);
      due("how many", x.count(5), 2);
      due("by 0 the one is", ofDepth(0, "abc").state(0, 2), 1);
      due("the first is", of("").state(0, 2), 1);
    });
    says("FOLLOWS by DEPTH 0 is one empty row;", () -> {
      TraceMachines x = ofDepth(0, "ab;c;");
      due("states", x.count(3), 1);
      due("rows", x.state(0, 6), 1);
      due("prefixes", x.state(0, 1), 4);
    });
    says("of just k LETTERS that are left these alone, no END.", () -> {
      // by 2 both give ab alone
      due("one row", ofDepth(2, "ab;abc").state(0, 6), 1);
      TraceMachines x = of("ab;cbd");
      due("b and b, d are one by 1", x.call(0, 0, 3), x.call(1, 0, 3));
      due("by 3", ofDepth(3, "abc;abcd").state(0, 6), 1);
    });
    says("A number apart from its LETTER by a blank can't stand.", () -> {
      TraceMachines x = new TraceMachines();
      dueFault(x, "a 1", 2);
      dueFault(x, "a   12", 4);
      dueFault(x, "a1 2", 3);
      due("in run(), too", runs(x, "a 1", false), -1002);
    });
  }

  private void edges() {
    says("EDGES: from the STATE of a PREFIX by a LETTER to that of the PREFIX one LETTER longer: one for each such three,",
        () -> {
      // 0 "", a, aa: a; 1 aaa: $
      TraceMachines x = of("aaa");
      due("edges", x.count(4), 2);
      due("edge 0", edge(x, 0), "0 a 0, 2 of 0 to 0");
      due("edge 1", edge(x, 1), "0 a 1, 1 of 0 to 0");
      due("none without calls", of(";").count(4), 0);
      due("one for each letter", ofDepth(0, "abcdefghij;jihgfedcba").count(4), 10);
    });
    says("with its SUPPORT, how often it was gone by TRACES,", () -> {
      TraceMachines x = of("ab;ab;a");
      due("by each trace", edge(x, 0), "0 a 1, 3 of 0 to 0");
      due("by two", edge(x, 1), "1 b 2, 2 of 0 to 0");
      due("twice by one", ofDepth(0, "aab").edge(0, 3), 2);
      due("most", ofDepth(0, "aaaaaaaaaaaa;aaaaaaaaaaaa").edge(0, 3), 24);
    });
    says("and its RANGE, the least and the greatest VALUE of these CALLS.", () -> {
      due("of one", edge(of("a7"), 0), "0 a 1, 1 of 7 to 7");
      due("of three", edge(of("a50;a99;a7"), 0), "0 a 1, 3 of 7 to 99");
      due("of three, the other way", edge(of("a50;a7;a99;a8"), 0), "0 a 1, 4 of 7 to 99");
      due("without a value 0", edge(of("a5;a"), 0), "0 a 1, 2 of 0 to 5");
      TraceMachines x = of("a3a0a9");
      due("of these alone", edge(x, 0), "0 a 0, 2 of 0 to 3");
      due("of these alone", edge(x, 1), "0 a 1, 1 of 9 to 9");
      due("of two prefixes, the other way", edge(of("a0a3a9"), 0), "0 a 0, 2 of 0 to 3");
      due("99 alone", edge(of("a99"), 0), "0 a 1, 1 of 99 to 99");
    });
    says("In order: by STATE, LETTER, STATE.", () -> {
      // 0 "": b c; 1 c, bc, ba: $; 2 b: a c
      TraceMachines x = of("c;bc;ba");
      String[] due = {"0 b 2", "0 c 1", "2 a 1", "2 c 1"};
      for (int i = 0; i < 4; i++) due("edge " + i, edge(x, i).substring(0, 5), due[i]);
      // 0 "", a, aaa: a; 1 aa: a $; 2 aaaa: $
      TraceMachines y = of("aaaa;aa");
      String[] byState = {"0 a 0", "0 a 1", "0 a 2", "1 a 0"};
      for (int i = 0; i < 4; i++) due("edge " + i, edge(y, i).substring(0, 5), byState[i]);
    });
  }

  private void running() {
    says("A text RUNS: from STATE 0 by each CALL over all EDGES of its LETTER", () -> {
      TraceMachines x = of("aaa");
      due("aa", runs(x, "aa", false), 1);
      dueRan(x, NONE, 2, 0);
      due("of its letter alone", runs(x, "ab", false), 0);
      dueRan(x, 1, 0, NONE);
      due("no call: state 0", runs(x, "", false), 0);
      dueRan(x, 0, 1, 0);
      // 0 "": a; 1 a: b c; 2 ab: d; 3 abd, ac: $
      TraceMachines y = of("abd;ac");
      due("from 0, not from others", runs(y, "c", false), 0);
    });
    says("(GUARDED: those alone of which the RANGE, MARGIN wider on both sides, has its VALUE),", () -> {
      TraceMachines x = of("a10;a15");
      int[] asked = {9, 10, 15, 16, 12};
      int[] taken = {0, 1, 1, 0, 1};
      for (int i = 0; i < 5; i++) due("a" + asked[i], runs(x, "a" + asked[i], true), taken[i]);
      due("not guarded", runs(x, "a99", false), 1);
      x.margin(2);
      int[] wider = {7, 8, 17, 18};
      int[] then = {0, 1, 1, 0};
      for (int i = 0; i < 4; i++) due("a" + wider[i], runs(x, "a" + wider[i], true), then[i]);
      TraceMachines low = of("a");
      low.margin(20);
      due("a20", runs(low, "a20", true), 1);
      due("a21", runs(low, "a21", true), 0);
      TraceMachines high = of("a99");
      high.margin(20);
      due("a79", runs(high, "a79", true), 1);
      due("a78", runs(high, "a78", true), 0);
      due("not guarded, whatever the range", runs(high, "a0", false), 1);
    });
    says("to a set of STATES; it FAILS at the first CALL behind which that is empty,", () -> {
      TraceMachines x = of("abc");
      String[] texts = {"d", "ad", "abd", "bbb", "abcd", "aabc"};
      int[] at = {0, 1, 2, 0, 3, 1};
      for (int i = 0; i < 6; i++) {
        due(texts[i], runs(x, texts[i], false), 0);
        dueRan(x, at[i], 0, NONE);
      }
    });
    says("or at its end, if no STATE of the set is FINAL", () -> {
      TraceMachines x = of("abc");
      due("ab", runs(x, "ab", false), 0);
      dueRan(x, 2, 1, 2);
      due("nothing", runs(x, "", false), 0);
      dueRan(x, 0, 1, 0);
      due("one of two is", runs(of("aaa"), "a", false), 1);
    });
    says("(without TRACES: at 0);", () -> {
      TraceMachines x = new TraceMachines();
      due("abc", runs(x, "abc", false), 0);
      dueRan(x, 0, 0, NONE);
      due("nothing", runs(x, "", true), 0);
      dueRan(x, 0, 0, NONE);
    });
    says("else it is TAKEN.", () -> {
      TraceMachines x = of("abc;");
      due("abc", runs(x, "abc", true), 1);
      dueRan(x, NONE, 1, 3);
      due("nothing", runs(x, "", true), 1);
      dueRan(x, NONE, 1, 0);
      due("a text that is no trace", runs(of("aaa"), "aaaaaaaaaaaa", true), 1);
    });
    says("MARGIN 0 .. 20 (0 at first).", () -> {
      TraceMachines x = of("a50");
      due("at first", x.count(7), 0);
      due("a51 at first", runs(x, "a51", true), 0);
      due("-1", x.margin(-1), -1);
      due("21", x.margin(21), -1);
      due("20", x.margin(20), 0);
      due("a70", runs(x, "a70", true), 1);
      due("a71", runs(x, "a71", true), 0);
      due("0", x.margin(0), 20);
    });
  }
}
