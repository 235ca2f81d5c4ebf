import java.util.HashSet;
import java.util.Set;

/** Promises 15 to 29 (cover, words, rules, odd ones, those held out, what is kept), sentence by sentence. */
final class SentencesOfFinds extends Sentences {
  /** By DEPTH 1 a of twelve goes over a million ways. */
  private static final String[] MANY_WAYS = {
      "aaabbaaababa;aaaaaaaabaaa;aababaabbaba;baa;aaaaaaabaaa;abaaaaaaabaa;abaaaaaabaaa;aa;baaaabaaabaa",
      "aabaaaabaaaa;aaaaa;babb;baaaa;a;aaaaaabaaaaa;baaaaaabaaaa;aabaa;aaaaaaaaaaaa;bbaaabbaabba;bbaaaaaaaaab"};

  SentencesOfFinds() {
    cover();
    ways();
    words();
    apart();
    walk();
    rule();
    rules();
    odd();
    oddest();
    held();
    fit();
    best();
    keep();
    again();
    count();
  }

  private void cover() {
    below("Promise 15");
    says("COVER: the fewest TRACES that together go all EDGES: how many (what 0),", () -> {
      due("two of three", of("ab;ac;a").cover(0), 2);
      due("one goes all", ofDepth(0, "ab;cd;abcd").cover(0), 1);
      due("not the greatest first", ofDepth(0, "abcd;abe;cdf").cover(0), 2);
      due("without edges", of(";;").cover(0), 0);
      due("all twenty", of("aa;ab;ac;ad;ae;af;ag;ah;ai;aj;ba;bb;bc;bd;be;bf;bg;bh;bi;c").cover(0), 20);
      due("each edge by one", of("a;b;c;d;e;f;g;h;i;j").cover(0), 10);
    });
    says("they (1; bits, of as few the lowest as a number).", () -> {
      due("0, 1", of("ab;ac;a").cover(1), 3);
      due("2", ofDepth(0, "ab;cd;abcd").cover(1), 4);
      due("like ones", of("ab;ab;ac;ac").cover(1), 5);
      due("0 and 2, or 1 and 3", ofDepth(0, "ab;bc;cd;da").cover(1), 5);
      due("1 and 2, or 0 and 3", ofDepth(0, "ab;ac;bd;cd").cover(1), 6);
      due("without edges", of(";;").cover(1), 0);
      due("all twenty", of("aa;ab;ac;ad;ae;af;ag;ah;ai;aj;ba;bb;bc;bd;be;bf;bg;bh;bi;c").cover(1), (1 << 20) - 1);
      due("the 20th alone", ofDepth(0, "a;" + ";".repeat(17), "ab").cover(1), 1 << 19);
      due("as few, not the lowest", ofDepth(0, "a;b;ab").cover(1), 4);
    });
    says("NONE: others.", () -> {
      for (int what : new int[] {2, 3, -1, MIN, MAX}) due("what " + what, of("a").cover(what), NONE);
      due("without traces", new TraceMachines().cover(2), NONE);
    });
  }

  private void ways() {
    below("Promise 16");
    says("In how many unlike ways along EDGES a TRACE is TAKEN, not GUARDED (1,000,000 if more).", () -> {
      // 0 "", a, aaa: a; 1 aa: a $; 2 aaaa: $: from 0 to 0, 1, 2, from 1 to 0
      TraceMachines x = of("a1a2a3a4;a9a9");
      due("aaaa", x.ways(0), 6);
      due("aa", x.ways(1), 2);
      due("one", ofDepth(0, "aaaa").ways(0), 1);
      due("without calls", of("").ways(0), 1);
      due("a million if more", of(MANY_WAYS).ways(17), 1000000);
      // by eleven calls from 0 to 0 go 144 ways (Fibonacci's numbers), and by one more to 1 or to 2
      due("fewer", of("aaaaaaaaaaaa;aa").ways(0), 288);
    });
    says("NONE: no such TRACE.", () -> {
      for (int t : new int[] {1, 20, -1, MIN, MAX}) due("ways(" + t + ")", of("a").ways(t), NONE);
      due("without traces", new TraceMachines().ways(0), NONE);
    });
  }

  private void words() {
    below("Promise 17");
    says("How many WORDS of n LETTERS (0 .. 8) there are.", () -> {
      TraceMachines x = of("ab;ac;a");
      int[] due = {0, 1, 2, 0, 0, 0, 0, 0, 0};
      for (int n = 0; n <= 8; n++) due("words(" + n + ")", x.words(n), due[n]);
      TraceMachines all = ofDepth(0, "abcdefghij");
      int power = 1;
      for (int n = 0; n <= 8; n++) {
        due("all of " + n, all.words(n), power);
        power *= 10;
      }
      due("the empty one", of("").words(0), 1);
      due("without traces", new TraceMachines().words(0), 0);
      due("without traces", new TraceMachines().words(8), 0);
    });
    says("NONE: others;", () -> {
      for (int n : new int[] {9, 10, -1, MIN, MAX}) due("words(" + n + ")", of("a").words(n), NONE);
      due("without traces", new TraceMachines().words(9), NONE);
    });
    says("-2: more than 100 sets of STATES to go on from at once.", () -> {
      TraceMachines x = ofDepth(2, SentencesInFull.HUNDRED_SETS);
      due("sets behind 7", sets(x, 7), 100);
      due("just 100", x.words(8) >= 0, true);
      TraceMachines y = ofDepth(2, SentencesInFull.MORE_SETS);
      due("sets behind 7", sets(y, 7), 101);
      due("101", y.words(8), -2);
      due("not to go on from", y.words(7) >= 0, true);
    });
  }

  /** How many unlike sets that are not empty there are behind n letters, as edge() tells it. */
  private static int sets(TraceMachines x, int n) {
    Set<Set<Integer>> here = new HashSet<>();
    here.add(Set.of(0));
    for (int i = 0; i < n; i++) {
      Set<Set<Integer>> next = new HashSet<>();
      for (Set<Integer> set : here) for (int c = 'a'; c <= 'j'; c++) next.add(behind(x, set, c));
      next.remove(Set.of());
      here = next;
    }
    return here.size();
  }

  private static Set<Integer> behind(TraceMachines x, Set<Integer> set, int letter) {
    Set<Integer> to = new HashSet<>();
    for (int e = 0; e < x.count(4); e++) {
      if (x.edge(e, 1) == letter && set.contains(x.edge(e, 0))) to.add(x.edge(e, 2));
    }
    return to;
  }

  private void apart() {
    below("Promise 18");
    says("The least word (fewest LETTERS, then by them) that is TAKEN, not GUARDED, by the machine of one of two DEPTHS (0 .. "
        + "3) alone: how many LETTERS (i NONE), its i-th LETTER's sign.", () -> {
      TraceMachines x = of("a7a7a7");
      due("0, 1: the empty one", x.apart(0, 1, NONE), 0);
      due("1, 2", parting(x, 1, 2), "a");
      due("2, 1", parting(x, 2, 1), "a");
      due("2, 3", parting(x, 2, 3), "aa");
      x.depth(3);
      due("whatever DEPTH is", parting(x, 1, 2), "a");
      // by 1 b and c come to one state: bed is taken, by 3 not
      due("by letters", parting(of("bea;cea;ced"), 1, 3), "bed");
      // by c the same two comes as by b
      due("by letters", parting(of("caaa;baaa"), 1, 2), "ba");
      due("fewest first, afgd behind that", parting(of("bea;cea;ced;afga;ahga;ahgd"), 1, 3), "bed");
      due("of 8 letters", parting(of("bcdefghaaa"), 1, 2), "bcdefgha");
    });
    says("NONE: none of 8 LETTERS or fewer, others.", () -> {
      due("9 letters", of("bcdefghiaaa").apart(1, 2, NONE), NONE);
      due("and none of it is told", of("bcdefghiaaa").apart(1, 2, 0), NONE);
      TraceMachines x = of("aaa");
      for (int k = 0; k < 4; k++) due("like depths", x.apart(k, k, NONE), NONE);
      for (int k : new int[] {4, -1, MIN, MAX}) {
        due("k " + k, x.apart(k, 1, NONE), NONE);
        due("other " + k, x.apart(1, k, NONE), NONE);
      }
      for (int i : new int[] {2, 8, -2, MIN, MAX}) due("i " + i, x.apart(2, 3, i), NONE);
      due("of the empty word", x.apart(0, 1, 0), NONE);
      due("without traces", new TraceMachines().apart(0, 3, NONE), NONE);
    });
    says("-2: twos of sets of STATES (one of either machine, empty ones, too) are looked at as words come to them, those of "
        + "fewer LETTERS first, then by letters; of each first whether it parts, then which come from it by a .. j (none from "
        + "words of 8); a 401st unlike one that comes ends it.", () -> {
      due("401 twos", of(SentencesInFull.TWOS_401).apart(2, 3, NONE), -2);
      due("400 twos", of(SentencesInFull.TWOS_400).apart(2, 3, NONE), 7);
      due("like ones, twos of few", of(SentencesInFull.TWOS_401).apart(0, 0, NONE), NONE);
      due("it parts ahead of that", of(SentencesInFull.TWOS_401).apart(0, 3, NONE), 0);
    });
  }

  private void walk() {
    below("Promise 19");
    says("A WALK by a seed (0 .. 999,999): how many LETTERS (i NONE; -2: it is LOST), its i-th LETTER's sign (of a LOST one, "
        + "too).", () -> {
      TraceMachines x = of("ab;ac;a");
      due("seed 0", x.walk(0, NONE), 2);
      due("seed 0", walked(x, 0), "ac");
      due("seed 999,999", x.walk(999999, NONE), 1);
      due("seed 999,999", walked(x, 999999), "a");
      TraceMachines y = ofDepth(0, "abcabcabcabc;abcabcabcabc;abcabcabcabc");
      int lost = 0;
      for (int seed = 0; seed < 100; seed++) {
        boolean isLost = y.walk(seed, NONE) == -2;
        due("its letters", walked(y, seed).length(), isLost ? 12 : y.walk(seed, NONE));
        if (isLost) lost++;
      }
      due("some are lost, some not", lost > 0 && lost < 100, true);
    });
    says("NONE: no TRACES, others.", () -> {
      due("no traces", new TraceMachines().walk(0, NONE), NONE);
      due("no traces", new TraceMachines().walk(0, 0), NONE);
      TraceMachines x = of("ab");
      for (int seed : new int[] {1000000, 1000003, -1, MIN, MAX}) {
        due("seed " + seed, x.walk(seed, NONE), NONE);
        due("seed " + seed, x.walk(seed, 0), NONE);
      }
      for (int i : new int[] {2, 11, 12, -2, MIN, MAX}) due("i " + i, x.walk(5, i), NONE);
      due("of no letters", of("").walk(0, 0), NONE);
    });
  }

  private void rule() {
    below("Promise 20");
    says("A RULE (kind 0 .. 5) of LETTERS x, y (0 .. 9, unlike): of how many TRACES it is ASKED (what 0), of how many of these "
        + "it is so (1).", () -> {
      TraceMachines x = of("ab;ba;aab;c;b");
      int[][] due = {{3, 2}, {4, 2}, {3, 1}, {3, 1}, {4, 2}, {4, 1}};
      for (int kind = 0; kind < 6; kind++) {
        for (int what = 0; what < 2; what++) due("kind " + kind, x.rule(kind, 0, 1, what), due[kind][what]);
      }
      due("j, a", of("ja;ja").rule(5, 9, 0, 1), 2);
      due("without traces", new TraceMachines().rule(0, 0, 1, 0), 0);
      due("of twenty", of("a;".repeat(19) + "a").rule(2, 0, 1, 1), 20);
    });
    says("NONE: others.", () -> {
      int[][] others = {{-1, 0, 1, 0}, {6, 0, 1, 0}, {0, -1, 1, 0}, {0, 10, 1, 0}, {0, 0, -1, 0}, {0, 0, 10, 0},
          {0, 3, 3, 0}, {0, 0, 1, 2}, {0, 0, 1, -1}, {MIN, 0, 1, 0}, {0, MIN, 1, 0}, {0, 0, MIN, 0}, {0, 0, 1, MIN},
          {MAX, 0, 1, 0}, {0, MAX, 1, 0}, {0, 0, MAX, 0}, {0, 0, 1, MAX}};
      TraceMachines x = of("ab");
      for (int[] o : others) due("rule(" + o[0] + ", " + o[1] + ", ..)", x.rule(o[0], o[1], o[2], o[3]), NONE);
    });
  }

  private void rules() {
    below("Promise 21");
    says("RULES of a kind that are ASKED of least TRACES (1 .. 20) or more and are so of all of which they are ASKED: how many "
        + "(i NONE), the i-th by x, then y: 10 x and y.", () -> {
      TraceMachines x = of("ab;ab");
      due("kind 0 of 1", x.rules(0, 1, NONE), 1);
      due("kind 0 of 2", x.rules(0, 2, NONE), 1);
      due("kind 0 of 3", x.rules(0, 3, NONE), 0);
      due("a, b", x.rules(0, 2, 0), 1);
      due("kind 2", x.rules(2, 2, NONE), 17);
      int[] behind = {2, 3, 4, 5, 6, 7, 8, 9, 10, 12, 13, 14, 15, 16, 17, 18, 19};
      for (int i = 0; i < 17; i++) due("the " + i + "th", x.rules(2, 2, i), behind[i]);
      due("j, i", of("ji").rules(5, 1, 0), 98);
      bring(x, "a");
      due("not so of all", x.rules(0, 1, NONE), 0);
      TraceMachines full = of("ab;".repeat(19) + "ab");
      due("of 20", full.rules(5, 20, NONE), 1);
      full.drop(0);
      due("of 19 alone", full.rules(5, 20, NONE), 0);
    });
    says("NONE: others.", () -> {
      TraceMachines x = of("ab");
      for (int kind : new int[] {6, -1, MIN, MAX}) due("kind " + kind, x.rules(kind, 1, NONE), NONE);
      for (int least : new int[] {0, 21, -1, MIN, MAX}) due("least " + least, x.rules(0, least, NONE), NONE);
      for (int i : new int[] {1, 2, 90, -2, MIN, MAX}) due("i " + i, x.rules(0, 1, i), NONE);
      due("least 20 can be", x.rules(0, 20, NONE), 0);
      due("without traces", new TraceMachines().rules(0, 1, 0), NONE);
    });
  }

  private void odd() {
    below("Promise 22");
    says("WEAKNESS of a TRACE (what 0), how many of its CALLS go an EDGE of that SUPPORT (1), its place among TRACES by it "
        + "(2).", () -> {
      TraceMachines x = of("ab;ab;ac;;d");
      int[][] due = {{2, 1, 2}, {2, 1, 3}, {1, 1, 0}, {999, 0, 4}, {1, 1, 1}};
      for (int t = 0; t < 5; t++) {
        for (int what = 0; what < 3; what++) due("odd(" + t + ", " + what + ")", x.odd(t, what), due[t][what]);
      }
      due("an edge gone twice", ofDepth(0, "aa").odd(0, 1), 2);
      due("twelve", ofDepth(3, "abcdefghijab").odd(0, 1), 12);
    });
    says("NONE: others.", () -> {
      TraceMachines x = of("a;b");
      for (int t : new int[] {2, 20, -1, MIN, MAX}) {
        for (int what = 0; what < 3; what++) due("odd(" + t + ", " + what + ")", x.odd(t, what), NONE);
      }
      for (int what : new int[] {3, -1, MIN, MAX}) due("what " + what, x.odd(0, what), NONE);
      due("without traces", new TraceMachines().odd(0, 0), NONE);
    });
  }

  private void oddest() {
    below("Promise 23");
    says("The i-th TRACE by WEAKNESS.", () -> {
      TraceMachines x = of("ab;ab;ac;;d");
      int[] order = {2, 4, 0, 1, 3};
      for (int i = 0; i < 5; i++) {
        due("oddest(" + i + ")", x.oddest(i), order[i]);
        due("its place", x.odd(order[i], 2), i);
      }
      due("the 20th", of(";".repeat(18) + "a", "b").oddest(19), 17);
    });
    says("NONE.", () -> {
      TraceMachines x = of("a;b");
      for (int i : new int[] {2, 20, -1, MIN, MAX}) due("oddest(" + i + ")", x.oddest(i), NONE);
      due("without traces", new TraceMachines().oddest(0), NONE);
    });
  }

  private void held() {
    below("Promise 24");
    says("Whether a TRACE HELD OUT is TAKEN by a DEPTH (0 .. 3): 1, 0.", () -> {
      TraceMachines x = of("aa;aaa");
      int[] first = {1, 1, 1, 0};
      int[] second = {1, 1, 0, 0};
      for (int k = 0; k < 4; k++) {
        due("held(0, " + k + ")", x.held(0, k, false), first[k]);
        due("held(1, " + k + ")", x.held(1, k, false), second[k]);
      }
      due("guarded", of("a1;a2").held(0, 1, true), 0);
      due("not guarded", of("a1;a2").held(0, 1, false), 1);
      due("alone", of("a").held(0, 1, false), 0);
      due("of twenty", of("a;".repeat(19) + "a").held(19, 3, true), 1);
    });
    says("NONE: others.", () -> {
      TraceMachines x = of("a;a");
      for (int t : new int[] {2, 20, -1, MIN, MAX}) due("trace " + t, x.held(t, 1, false), NONE);
      for (int k : new int[] {4, -1, MIN, MAX}) due("k " + k, x.held(0, k, true), NONE);
      due("without traces", new TraceMachines().held(0, 0, false), NONE);
    });
  }

  private void fit() {
    below("Promise 25");
    says("How many TRACES, each HELD OUT, are TAKEN by a DEPTH (0 .. 3), not GUARDED (what 0), GUARDED (1);", () -> {
      TraceMachines x = of("aa;aaa");
      int[] due = {2, 2, 1, 0};
      for (int k = 0; k < 4; k++) {
        due("fit(" + k + ", 0)", x.fit(k, 0), due[k]);
        due("fit(" + k + ", 1)", x.fit(k, 1), due[k]);
      }
      TraceMachines y = of("a1;a5;a3");
      due("not guarded", y.fit(1, 0), 3);
      due("guarded", y.fit(1, 1), 1);
      due("one alone", of("a").fit(0, 0), 0);
      due("twenty", of("a;".repeat(19) + "a").fit(3, 1), 20);
      due("without traces", new TraceMachines().fit(0, 0), 0);
    });
    says("how many STATES all TRACES give by it (2).", () -> {
      TraceMachines x = of("aaa");
      for (int k = 0; k < 4; k++) due("fit(" + k + ", 2)", x.fit(k, 2), k + 1);
      x.depth(3);
      due("whatever DEPTH is", x.fit(1, 2), 2);
      due("without traces", new TraceMachines().fit(3, 2), 0);
    });
    says("NONE: others.", () -> {
      for (int k : new int[] {4, -1, MIN, MAX}) {
        for (int what = 0; what < 3; what++) due("fit(" + k + ", " + what + ")", of("a").fit(k, what), NONE);
      }
      for (int what : new int[] {3, -1, MIN, MAX}) due("what " + what, of("a").fit(1, what), NONE);
    });
  }

  private void best() {
    below("Promise 26");
    says("The DEPTH by which most TRACES HELD OUT are TAKEN, not GUARDED, of like ones that of most STATES, of these the least "
        + "(what 0), how many these are (1).", () -> {
      // ab, ac, a: a alone, by 0 alone
      due("most", of("ab;ac;a").best(0), 0);
      due("they", of("ab;ac;a").best(1), 1);
      // aa, aaa: two by 0 and 1, of 1 and 3 states
      due("of most states", of("aa;aaa").best(0), 1);
      due("they", of("aa;aaa").best(1), 2);
      // a thrice: three by all, one state by 0, two by the others
      due("the least", of("a1;a5;a3").best(0), 1);
      due("not guarded", of("a1;a5;a3").best(1), 3);
      due("none by all, of most states", of("aaa").best(0), 3);
      due("they", of("aaa").best(1), 0);
      due("one state by all", of(";").best(0), 0);
      due("they", of(";").best(1), 2);
    });
    says("NONE: no TRACES, others.", () -> {
      for (int what = -1; what < 3; what++) due("no traces", new TraceMachines().best(what), NONE);
      for (int what : new int[] {2, -1, MIN, MAX}) due("what " + what, of("a").best(what), NONE);
    });
  }

  private void keep() {
    below("Promise 27");
    says("TRACES, DEPTH, MARGIN are kept under k (0, 1): true;", () -> {
      TraceMachines x = of("a1;b2");
      x.depth(3);
      x.margin(7);
      due("keep(0)", x.keep(0), true);
      x.drop(0);
      x.depth(0);
      x.margin(1);
      due("keep(1)", x.keep(1), true);
      bring(x, "c");
      x.again(0);
      due("under 0", letters(x, 0) + letters(x, 1) + x.call(1, 0, 1) + x.count(6) + x.count(7), "ab237");
      x.again(1);
      due("under 1", letters(x, 0) + x.count(0) + x.count(6) + x.count(7), "b101");
      due("anew", x.keep(0), true);
      bring(x, "c");
      x.again(0);
      due("under 0", letters(x, 0) + x.count(0) + x.count(6) + x.count(7), "b101");
      TraceMachines none = new TraceMachines();
      due("no traces", none.keep(1), true);
      bring(none, "a");
      due("again(1)", none.again(1), true);
      due("no traces", none.count(0), 0);
    });
    says("false: others.", () -> {
      TraceMachines x = of("a");
      for (int k : new int[] {2, 3, -1, MIN, MAX}) due("keep(" + k + ")", x.keep(k), false);
      due("nothing was kept", x.again(0) || x.again(1), false);
    });
  }

  private void again() {
    below("Promise 28");
    says("They are as they were kept (nothing can be undone then);", () -> {
      TraceMachines x = of("a1b;c");
      x.depth(2);
      x.margin(4);
      x.keep(1);
      tell(x, "ab");
      String before = all(x).replaceAll(" \\d+ -1 -1 -1$", "");
      x.drop(0);
      x.depth(0);
      x.margin(0);
      due("again(1)", x.again(1), true);
      due("as they were", all(x), before + " 0 -1 -1 -1");
      due("THE TEXT stays", x.count(8), 2);
      due("undo()", x.undo(), -3);
      x.drop(0);
      due("what is done then can be", x.undo(), 0);
      x.drop(0);
      due("and again", x.again(1), true);
      due("as they were", all(x), before + " 0 -1 -1 -1");
    });
    says("false: others, nothing kept.", () -> {
      TraceMachines x = of("a");
      due("again(0)", x.again(0), false);
      due("again(1)", x.again(1), false);
      x.keep(1);
      due("nothing under 0", x.again(0), false);
      for (int k : new int[] {2, -1, MIN, MAX}) due("again(" + k + ")", x.again(k), false);
      due("all can be undone yet", x.count(9), 1);
      due("all is as it was", x.count(0), 1);
    });
  }

  private void count() {
    below("Promise 29");
    says("0 TRACES, 1 CALLS of all, 2 PREFIXES, 3 STATES, 4 EDGES, 5 FINAL STATES, 6 DEPTH, 7 MARGIN, 8 signs of THE TEXT, 9 "
        + "what can be undone.", () -> {
      TraceMachines x = of("a1b20;a5c9;a3");
      x.margin(6);
      x.depth(2);
      tell(x, "abc");
      int[] due = {3, 5, 4, 3, 3, 2, 2, 6, 3, 3};
      for (int what = 0; what < 10; what++) due("count(" + what + ")", x.count(what), due[what]);
      String some = "abcdefghijab;".repeat(9) + "abcdefghijab";
      TraceMachines full = of(some, some);
      due("most traces", full.count(0), 20);
      due("most calls", full.count(1), 240);
      for (int w = 1; w < 20; w++) full.margin(w);
      due("most to be undone", full.count(9), 8);
    });
    says("NONE: others.", () -> {
      for (int what : new int[] {10, 11, -1, MIN, MAX}) due("count(" + what + ")", of("a").count(what), NONE);
    });
  }
}
