/** The document's term 3 (rules, odd ones, those held out, words, walks), IN FULL and REFUSED, sentence by sentence. */
final class SentencesInFull extends Sentences {
  /** Behind 7 letters there are 100 sets by DEPTH 2, behind 8 letters 103. */
  static final String[] HUNDRED_SETS = {
      "adcdbcecfdec;ceeebfbdbaaf;adccdafdaa;befeebaccaf;bccafdcadbcd;adcbffdcfe;daebdabcfeeb",
      "ceebfbdeefee;fbadeaffce;daebdabcfdce;bccadcceedcc;adccdafeaccb;efdcddcadada;fbadccccf;daebdaafabae",
      "efdecabbfaf;ceebfceacdea;fbadccceebfc;bdfdaeeedfdb;befeacbbecf"};
  /** Behind 6 letters there are 87 sets by DEPTH 2, behind 7 letters 101. */
  static final String[] MORE_SETS = {
      "cbbeifhjdafh;idfeffddiahe;iaijhijaacag;bfjaghdgied;bfjagghjiabe;ijfbfdeceic;bjjighajdefh",
      "cbbjbgegjgfe;gafiaecdfbjg;djijibi;jbefbhfabdch;ehghgbbjhccb;eddgcejiddgd;hfdbaigjbbbg;jibcbccjjbec",
      "ffjdcggdjecc;ffjdgcgfaaf;acaeeahjfhdb;effjfjbfcfi;ijfbaebedae"};
  /** By DEPTHS 2 and 3 just 400 twos come ahead of the one that parts, and from that one others would. */
  static final String[] TWOS_400 = {
      "abbbbbbdacb;ababbbajehia;abbbbajbib;aaaabbaaicbf;babbbhaaabch;aabaabbaaacj;bbabbgabjbhb;abbabbjabci;bbabajaagbhh",
      "bababbbaadf;bbbabajgbhhb;aaabbbaacahb;aabbbbbabia;bbbaabaaci;aaababbbebia;aabaaabbaacb;babbabbaabib;bbbaaabaaaia",
      "bbaabbbbagca;babaaafbabia"};
  /** By DEPTHS 2 and 3 just 401 twos come ahead of the one that parts. */
  static final String[] TWOS_401 = {
      "bbbabaiafebe;abbbbbjabca;ababbabbageb;aaaabbgbiehb;babbacbbabhb;aabaabbaabca;bbababbbfjje;abbbbacgaaha;babbbfbaahff",
      "bababbbbgafa;abbabaaaaaeb;aaabacibdbda;aaabbeaahbha;bbbaabajaaeh;bbaabbbbjhhb;aabaaabbaafe;aabbbbbbacdb;bbbaaajddeeb",
      "bbabbbababda;babaacjgaefh"};

  SentencesInFull() {
    below("Terms");
    rules();
    odd();
    heldOut();
    words();
    walks();
    texts();
    acts();
    refused();
  }

  static int next(int s) { return (int) ((1103L * s + 12345) % 1000003); }

  private static void dueSo(int kind, String so, String not) {
    for (String t : so.split(" ")) due("kind " + kind + " of " + t, of(t).rule(kind, 0, 1, 1), 1);
    for (String t : not.split(" ")) due("kind " + kind + " of " + t, of(t).rule(kind, 0, 1, 1), 0);
  }

  private static void dueAsked(int kind, String asked, String not) {
    for (String t : asked.split(" ")) due("kind " + kind + " of " + t, of(t).rule(kind, 0, 1, 0), 1);
    for (String t : not.split(" ")) due("kind " + kind + " of " + t, of(t).rule(kind, 0, 1, 0), 0);
    due("kind " + kind + " of no calls", of("").rule(kind, 0, 1, 0), 0);
  }

  private void rules() {
    says("RULES of two LETTERS x, y (unlike); of a TRACE: 0 behind each x comes a y, some time;", () -> {
      dueSo(0, "ab aab acb bab abab abcc", "a ba aba bba abca");
      TraceMachines x = of("ab");
      for (int l = 0; l < 10; l++) due("like letters", x.rule(0, l, l, 0), NONE);
      due("j, i", of("ji").rule(0, 9, 8, 1), 1);
    });
    says("1 ahead of each y there is an x;", () -> dueSo(1, "ab abb cab aba acb", "b ba bab cb bba"));
    says("2 behind an x no y comes;", () -> dueSo(2, "a ba bba bbaa aca", "ab acb bab aab aba"));
    says("3 right behind each x is a y;", () -> dueSo(3, "ab abab babb abcab", "a acb aab aba ba abca"));
    says("4 there are as many x as y;", () -> dueSo(4, "ab ba abba bbaa cacb", "a b aab abb bacb ccb"));
    says("5 x and y, all others left out, come in turn, x first, and y last.",
        () -> dueSo(5, "ab abab cacbc acbcab", "a b ba aab abb aba bab baba abba aabb"));
    says("ASKED of a TRACE: of kinds 0, 2, 3, if it has an x;", () -> {
      for (int kind : new int[] {0, 2, 3}) dueAsked(kind, "a ab ca bba", "b c bb");
    });
    says("of 1, if it has a y;", () -> dueAsked(1, "b ab cb baa", "a c aa"));
    says("of 4, 5, if it has either.", () -> {
      for (int kind : new int[] {4, 5}) dueAsked(kind, "a b ab cb ca", "c dd");
    });
  }

  private void odd() {
    says("ODD: WEAKNESS of a TRACE: the least SUPPORT of EDGES that its PREFIXES go", () -> {
      // a is gone by three, b by two, c and d by one each
      TraceMachines x = of("ab;ab;ac;d");
      int[] due = {2, 2, 1, 1};
      for (int t = 0; t < 4; t++) due("odd(" + t + ", 0)", x.odd(t, 0), due[t]);
      due("the last edge", of("ab;aa").odd(0, 0), 1);
      due("the first edge", ofDepth(0, "ab;cb;bb").odd(0, 0), 1);
      due("its own alone", ofDepth(0, "aa;b").odd(0, 0), 2);
    });
    says("(999 without CALLS).", () -> {
      TraceMachines x = of("a;");
      due("without", x.odd(1, 0), 999);
      due("calls of such", x.odd(1, 1), 0);
      due("the last by it", x.oddest(1), 1);
      due("alone", of("").odd(0, 0), 999);
    });
    says("TRACES by it: the weakest first;", () -> {
      TraceMachines x = ofDepth(0, "aaa;bb;c;");
      int[] order = {2, 1, 0, 3};
      for (int i = 0; i < 4; i++) due("oddest(" + i + ")", x.oddest(i), order[i]);
      // by SUPPORT 1 and one CALL ahead of SUPPORT 2 and two CALLS
      due("weakness ahead of how many", ofDepth(0, "aa;b").oddest(0), 1);
    });
    says("of like ones that which goes more EDGES of just that SUPPORT (each CALL counted);", () -> {
      TraceMachines x = of("ab;cde");
      due("three of 1", x.oddest(0), 1);
      due("two of 1", x.oddest(1), 0);
      TraceMachines y = ofDepth(0, "b;b;aa");
      due("an edge gone twice", y.odd(2, 1), 2);
      due("is ahead", y.oddest(0), 2);
      due("of just that", of("ab;ab;ac").odd(2, 1), 1);
    });
    says("then the lower number.", () -> {
      TraceMachines x = of("a;a;a");
      for (int i = 0; i < 3; i++) due("oddest(" + i + ")", x.oddest(i), i);
      TraceMachines y = of(";;");
      for (int i = 0; i < 3; i++) due("odd(" + i + ", 2)", y.odd(i, 2), i);
    });
  }

  private void heldOut() {
    says("HELD OUT a TRACE: whether it is TAKEN (not GUARDED, or GUARDED) by what the other TRACES alone give by a DEPTH",
        () -> {
      TraceMachines x = of("ab;ab;ac");
      due("a like one gives it", x.held(0, 1, false), 1);
      due("it alone gave it", x.held(2, 1, false), 0);
      TraceMachines y = of("aa;aaa");
      due("by 3", y.held(0, 3, false), 0);
      due("by 2", y.held(0, 2, false), 1);
      due("by 1", y.held(0, 1, false), 1);
      due("by 0", y.held(0, 0, false), 1);
      TraceMachines z = of("a1;a5;a3");
      due("guarded", z.held(1, 1, true), 0);
      due("not guarded", z.held(1, 1, false), 1);
      due("traces are as they were", z.count(0), 3);
    });
    says("(without others: not).", () -> {
      for (int k = 0; k < 4; k++) {
        due("a, by " + k, of("a").held(0, k, false), 0);
        due("none, by " + k, of("").held(0, k, true), 0);
      }
      due("fit", of("").fit(0, 0), 0);
      due("best", of("").best(1), 0);
    });
    says("HELD OUT, GUARDED: RANGES of the others, MARGIN as it is.", () -> {
      TraceMachines x = of("a1;a5;a3");
      int[] due = {0, 0, 1};
      for (int t = 0; t < 3; t++) due("held(" + t + ")", x.held(t, 1, true), due[t]);
      x.margin(1);
      due("by 1", x.held(0, 1, true), 0);
      x.margin(2);
      for (int t = 0; t < 3; t++) due("held(" + t + ") by 2", x.held(t, 1, true), 1);
      due("fit by 2", x.fit(1, 1), 3);
      x.margin(1);
      due("fit by 1", x.fit(1, 1), 1);
    });
  }

  private void words() {
    says("WORDS are rows of LETTERS, that are TAKEN, not GUARDED.", () -> {
      TraceMachines x = of("a5;a9b1");
      int[] due = {0, 1, 1, 0};
      for (int n = 0; n < 4; n++) due("words(" + n + ")", x.words(n), due[n]);
      due("no beginnings of such", of("abc").words(2), 0);
      due("taken ones that are no traces, too", of("aaa").words(8), 1);
      due("by two ways one word", of("aaaa;aa").words(4), 1);
    });
    says("words(): unlike sets that are not empty, behind 0, 1, .. n less 1 LETTERS.", () -> {
      TraceMachines x = ofDepth(2, HUNDRED_SETS);
      for (int n = 0; n <= 8; n++) due("100 behind 7, 103 behind 8: words(" + n + ")", x.words(n) >= 0, true);
      TraceMachines y = ofDepth(2, MORE_SETS);
      int[] due = {0, 0, 0, 1, 7, 12, 27, 55, -2};
      for (int n = 0; n <= 8; n++) due("101 behind 7: words(" + n + ")", y.words(n), due[n]);
    });
    says("apart(): the two of both first sets is the first of the 400;", () -> {
      due("the 400th parts", parting(of(TWOS_400), 2, 3), "bbhaaca");
      due("a 401st", of(TWOS_401).apart(2, 3, NONE), -2);
    });
    says("-2 for each i.", () -> {
      TraceMachines x = of(TWOS_401);
      for (int i : new int[] {NONE, 0, 1, 7, 8, 99, -2, MIN, MAX}) due("i " + i, x.apart(2, 3, i), -2);
      due("the other way, too", x.apart(3, 2, 0), -2);
      due("of others NONE", x.apart(2, 4, 0), NONE);
    });
  }

  private void walks() {
    says("A WALK by a seed: from STATE 0: a DRAW of how often the STATE was left or ended in by TRACES, all together: below "
        + "how often TRACES ended in it the WALK ENDS;", () -> {
      TraceMachines x = of(";;a;b;");
      String[] due = {"", "", "", "a", "b"};
      for (int seed = 0; seed < 40; seed++) due("walk " + seed, walked(x, seed), due[next(seed) % 5]);
      due("of none", of("").walk(7, NONE), 0);
    });
    says("the rest goes through its EDGES in order, each as often as its SUPPORT;", () -> {
      TraceMachines x = of("b;a;a;a;c");
      String[] due = {"a", "a", "a", "b", "c"};
      for (int seed = 0; seed < 40; seed++) due("walk " + seed, walked(x, seed), due[next(seed) % 5]);
      // 0 "", a: a; 1 aa: $: by one letter to two states
      TraceMachines y = of("aa");
      for (int seed = 0; seed < 40; seed++) {
        int s = next(seed);
        int n = 1;
        while (n < 13 && s % 2 == 0) {
          s = next(s);
          n++;
        }
        due("walk " + seed, y.walk(seed, NONE), n > 12 ? -2 : n);
      }
    });
    says("12 LETTERS at most (at a 13th it is LOST).", () -> {
      TraceMachines x = ofDepth(0, "aaaaaaaaaaaa");
      int lost = 0;
      int twelve = 0;
      for (int seed = 0; seed < 400; seed++) {
        int s = next(seed);
        int n = 0;
        while (n < 13 && s % 13 != 0) {
          s = next(s);
          n++;
        }
        due("walk " + seed, x.walk(seed, NONE), n == 13 ? -2 : n);
        if (n == 13) lost++;
        if (n == 12) twelve++;
      }
      due("both come", lost > 0 && twelve > 0, true);
    });
    says("A DRAW of m: s (at first the seed) becomes (1,103 s and 12,345) modulo 1,000,003; it is s modulo m.", () -> {
      TraceMachines x = ofDepth(0, "abcdefghij");
      // 12,345 by 11: 3, c; 13,448: 6, f; 10,557 behind the wrap: 8, h; 7,933: 2, b
      int[] seeds = {0, 1, 905, 999999};
      char[] first = {'c', 'f', 'h', 'b'};
      for (int i = 0; i < 4; i++) due("walk(" + seeds[i] + ", 0)", x.walk(seeds[i], 0), first[i]);
      for (int seed = 999900; seed < 1000000; seed++) {
        int r = next(seed) % 11;
        due("walk(" + seed + ", 0)", x.walk(seed, 0), r == 0 ? NONE : 'a' + r - 1);
      }
    });
    says("A DRAW of a WALK is made also where one thing alone can come;", () -> {
      TraceMachines x = of("ab;ac;a");
      String[] due = {"a", "ab", "ac"};
      for (int seed = 0; seed < 40; seed++) due("walk " + seed, walked(x, seed), due[next(next(seed)) % 3]);
    });
    says("the 12 LETTERS of a LOST one are told.", () -> {
      TraceMachines x = ofDepth(0, "abababababab");
      int seed = 0;
      while (seed < 1000 && x.walk(seed, NONE) != -2) seed++;
      due("a lost one", x.walk(seed, NONE), -2);
      int s = seed;
      for (int i = 0; i < 12; i++) {
        s = next(s);
        due("letter " + i, x.walk(seed, i), s % 13 <= 6 ? 'a' : 'b');
      }
      due("a 13th", x.walk(seed, 12), NONE);
    });
    says("cover() without TRACES: 0, 0.", () -> {
      TraceMachines x = new TraceMachines();
      due("how many", x.cover(0), 0);
      due("they", x.cover(1), 0);
      bring(x, "a");
      x.drop(0);
      due("how many", x.cover(0), 0);
      due("they", x.cover(1), 0);
    });
  }

  private void texts() {
    says("traces() and run() empty THE TEXT whatever they answer;", () -> {
      TraceMachines x = new TraceMachines();
      String[] texts = {"ab", "x", "", "a;b", "a123"};
      for (String text : texts) {
        runs(x, text, true);
        due("behind run() of " + text, x.count(8), 0);
        bring(x, text);
        due("behind traces() of " + text, x.count(8), 0);
      }
      bring(x, ";".repeat(20));
      due("behind too many", x.count(8), 0);
    });
    says("with a FAULT all else stays.", () -> {
      TraceMachines x = of("a5b;c");
      x.depth(2);
      x.margin(3);
      runs(x, "a", false);
      String before = all(x);
      for (String text : new String[] {"x", "ab;c;d;x", "abcdefghijabc", "a;" + ";".repeat(20)}) {
        due("traces()", bring(x, text) <= -1000, true);
        due("all", all(x), before);
        due("run()", runs(x, text, true) <= -1000, true);
        due("all", all(x), before);
      }
      due("the margin is undone first", x.undo(), 2);
      due("the margin", x.count(7), 0);
    });
  }

  private void acts() {
    says("Acts: traces(), drop(), depth(), margin() that were done;", () -> {
      TraceMachines x = new TraceMachines();
      bring(x, "a;b");
      due("traces()", x.count(9), 1);
      x.drop(0);
      due("drop()", x.count(9), 2);
      x.depth(2);
      due("depth()", x.count(9), 3);
      x.margin(2);
      due("margin()", x.count(9), 4);
      bring(x, "x");
      x.drop(1);
      x.depth(2);
      x.depth(4);
      x.margin(2);
      x.margin(21);
      due("those that were not done", x.count(9), 4);
      x.keep(0);
      runs(x, "b", false);
      x.best(0);
      x.end(0);
      due("other calls", x.count(9), 4);
    });
    says("the latest 8 can be undone (TRACES, DEPTH, MARGIN are as they were).", () -> {
      TraceMachines x = of("a1");
      x.margin(9);
      String[] before = new String[8];
      for (int i = 0; i < 8; i++) {
        before[i] = told(x);
        if (i % 4 == 0) bring(x, "b2;c" + i);
        if (i % 4 == 1) x.depth(i == 1 ? 3 : 0);
        if (i % 4 == 2) x.margin(i);
        if (i % 4 == 3) x.drop(0);
      }
      due("eight", x.count(9), 8);
      for (int i = 7; i >= 0; i--) {
        due("undo()", x.undo(), i);
        due("as they were", told(x), before[i]);
      }
      due("a ninth", x.undo(), -3);
      due("as they were", told(x), before[0]);
    });
    says("All that is asked is found from TRACES as they are when it is asked;", () -> {
      TraceMachines x = of("ab;ac;a");
      String before = found(x);
      x.keep(0);
      bring(x, "ba;aa");
      String more = found(x);
      due("what was asked is not told again", more.equals(before), false);
      due("as of a new object", more, found(of("ab;ac;a;ba;aa")));
      x.undo();
      due("undone", found(x), before);
      x.drop(1);
      due("dropped", found(x), found(of("ab;a")));
      x.depth(0);
      due("by another depth", found(x), found(ofDepth(0, "ab;a")));
      x.again(0);
      due("again", found(x), before);
      TraceMachines y = of("aaa");
      due("by 1, 2", y.apart(1, 2, NONE), 1);
      bring(y, "a");
      // by 1 all of odd length, by 2 a and aaa alone
      due("by 1, 2, anew", y.apart(1, 2, NONE), 5);
    });
    says("the latest run() is told till the next one that had no FAULT, whatever is done between.", () -> {
      TraceMachines x = of("abc");
      runs(x, "ab", false);
      dueRan(x, 2, 1, 2);
      x.keep(0);
      runs(x, "x", false);
      runs(x, "a;", false);
      dueRan(x, 2, 1, 2);
      bring(x, "a");
      x.depth(0);
      x.margin(1);
      x.undo();
      x.drop(0);
      x.held(0, 1, true);
      x.fit(1, 1);
      x.best(0);
      dueRan(x, 2, 1, 2);
      x.again(0);
      x.drop(0);
      dueRan(x, 2, 1, 2);
      runs(x, "", false);
      dueRan(x, 0, 0, NONE);
    });
  }

  private static String told(TraceMachines x) {
    String all = all(x);
    return all.substring(0, all.lastIndexOf(';') + 1) + x.count(6) + " " + x.count(7);
  }

  /** What each call that finds something answers. */
  private static String found(TraceMachines x) {
    StringBuilder b = new StringBuilder();
    for (int what = 0; what < 8; what++) b.append(x.count(what)).append(' ');
    for (int s = 0; s < x.count(3); s++) b.append(state(x, s)).append(' ');
    for (int e = 0; e < x.count(4); e++) b.append(edge(x, e)).append(' ');
    for (int t = 0; t < x.count(0); t++) b.append(x.ways(t)).append(x.odd(t, 2)).append(x.held(t, 1, true)).append(' ');
    for (int n = 0; n < 4; n++) b.append(x.words(n)).append(' ').append(x.fit(n, 0)).append(x.fit(n, 2)).append(' ');
    for (int k = 0; k < 4; k++) b.append(x.apart(k, 3, NONE)).append(x.rules(k, 1, NONE)).append(walked(x, k)).append(' ');
    return b.append(x.cover(1)).append(x.vague(0)).append(x.vague(1)).append(x.best(0)).append(x.best(1)).toString();
  }

  private void refused() {
    says("REFUSED calls answer as told, and change nothing but THE TEXT: -1 a number that can't be;", () -> {
      TraceMachines x = some();
      String before = all(x);
      for (int k : new int[] {-1, 4, 5, MIN, MAX}) due("depth(" + k + ")", x.depth(k), -1);
      for (int w : new int[] {-1, 21, 22, MIN, MAX}) due("margin(" + w + ")", x.margin(w), -1);
      due("all", all(x), before);
      due("THE TEXT, too", x.count(8), 2);
    });
    says("-2 no such TRACE, STATE;", () -> {
      TraceMachines x = some();
      String before = all(x);
      for (int t : new int[] {-1, 2, 20, MIN, MAX}) due("drop(" + t + ")", x.drop(t), -2);
      due("all", all(x), before);
    });
    says("-3 it is so already.", () -> {
      TraceMachines x = some();
      String before = all(x);
      due("depth(2)", x.depth(2), -3);
      due("margin(3)", x.margin(3), -3);
      due("all", all(x), before);
      due("depth(1)", new TraceMachines().depth(1), -3);
      due("margin(0)", new TraceMachines().margin(0), -3);
      due("undo()", new TraceMachines().undo(), -3);
    });
  }

  private static TraceMachines some() {
    TraceMachines x = of("a5b;c");
    x.depth(2);
    x.margin(3);
    runs(x, "a", false);
    tell(x, "ab");
    return x;
  }
}
