import java.util.ArrayList;
import java.util.List;

/** What breaks a sentence of the document: a text of the source, which must stand there once, and what is put for it. */
final class BrokenCopies {
  /** A heading of the document, how the sentence below it begins, the text of the source, what is put for it. */
  record Copy(String place, String begins, String old, String put) {}

  private final List<Copy> all = new ArrayList<>();
  private String place = "";

  BrokenCopies() {
    texts();
    statesAndEdges();
    running();
    rulesAndOdd();
    heldAndWords();
    walks();
    actsAndRefused();
    objects();
    textsAndActs();
    whatThereIs();
    runs();
    wordsFound();
    rules();
    oddAndHeld();
    kept();
  }

  List<Copy> all() { return all; }

  private void below(String heading) { place = heading; }

  private void broken(String begins, String old, String put) { all.add(new Copy(place, begins, old, put)); }

  private void texts() {
    below("Terms");
    broken("THE TEXT (240", "MOST_SIGNS = 240;", "MOST_SIGNS = 244;");
    broken("THE TEXT (240", "MOST_SIGNS = 240;", "MOST_SIGNS = 236;");
    broken("TRACE: none",
        "return opened || into.open() ? NONE : length;",
        "return opened || into.count > 0 || into.open() ? NONE : length;");
    broken("LETTER a .. j",
        "} else if (isLetter(sign - 'a') && into.add",
        "} else if (isLetter(sign - 'a') && sign != 'j' && into.add");
    broken("LETTER a .. j", "int sign = signs[p];", "int sign = signs[p] == 'A' ? 'a' : signs[p];");
    broken("perhaps a number", "MOST_DIGITS = 2;", "MOST_DIGITS = 1;");
    broken("perhaps a number", "            values[at] = 0;", "            values[at] = 1;");
    broken("perhaps a number", "sign >= '0' && sign <= '9'", "sign >= '0' && sign <= ':'");
    broken("Blanks (32)", "if (sign == ' ') {", "if (sign <= ' ') {");
    broken("Blanks (32)", "if (sign == ' ') {", "if ((sign & 127) == ' ') {");
    broken("12 CALLS in a TRACE", "MOST_CALLS = 12;", "MOST_CALLS = 11;");
    broken("12 CALLS in a TRACE", "MOST_CALLS = 12;", "MOST_CALLS = 13;");
    broken("TRACES 0 ..", "MOST_TRACES = 20;", "MOST_TRACES = 19;");
    broken("TRACES 0 ..", "MOST_TRACES = 20;", "MOST_TRACES = 21;");
    broken("TRACES 0 ..", "        read.copyFrom(now);\n", "        read.count = 0;\n");
    broken("like ones are two",
        "places[trace * PLACES + i + 1] = prefix;\n                goers[prefix]++;",
        "places[trace * PLACES + i + 1] = prefix;\n                goers[prefix] = 1;");
    broken("An empty THE TEXT",
        "return opened || into.open() ? NONE : length;",
        "return opened || length == 0 || into.open() ? NONE : length;");
    broken("FAULT, the first",
        "                } else {\n                    return p;",
        "                } else {\n                    return length - 1;");
    broken("one that can't stand", "if (digitsLeft > 0 && sign >= '0'", "if (sign >= '0'");
    broken("one that can't stand",
        "into.addDigit(sign - '0');\n                    digitsLeft--;",
        "into.addDigit(sign - '0');");
    broken("one that can't stand",
        "                } else {\n                    return p;",
        "                } else if (sign != ',') {\n                    return p;");
    broken("the 13th LETTER", "MOST_CALLS = 12;", "MOST_CALLS = 13;");
    broken("the 13th LETTER",
        "                } else {\n                    return p;",
        "                } else {\n                    return p + 1;");
    broken("the first sign (or ;",
        "return opened || into.open() ? NONE : length;",
        "return opened || into.open() || length > 0 ? NONE : length;");
    broken("the first sign (or ;",
        "if (!opened && !into.open()) {\n                    return p;",
        "if (!opened && !into.open()) {\n                    return p - 1;");
    broken("the first sign (or ;",
        "return opened || into.open() ? NONE : length;",
        "return opened || into.open() ? NONE : length - 1;");
    broken("the first sign (or ;",
        "        read.count = 0;\n        int fault = text.parse(read, true);",
        "        read.copyFrom(now);\n        int fault = text.parse(read, true);");
  }

  private void statesAndEdges() {
    below("Terms");
    broken("DEPTH k (0", "        int depth = 1;", "        int depth = 2;");
    broken("DEPTH k (0", "DEPTHS = 4;", "DEPTHS = 5;");
    broken("DEPTH k (0", "return k >= 0 && k < DEPTHS;", "return k >= 0 && k < DEPTHS - 1;");
    broken("PREFIXES: all", "return tree.prefixes;", "return tree.prefixes - 1;");
    broken("PREFIXES: all", "if (longer[at] == NONE) {", "if (longer[at] == NONE || by == 1) {");
    broken("WHAT FOLLOWS", "for (int i = from; i < from + k; i++) {", "for (int i = from; i <= from + k; i++) {");
    broken("WHAT FOLLOWS",
        "insert(tree.prefixAt(trace, i), rowOf(traces, trace, i, k));",
        "insert(tree.prefixAt(trace, i), rowOf(traces, trace, Math.min(i + 1, traces.lengths[trace]), k));");
    broken("WHAT FOLLOWS", "if (at > start && rows[at - 1] == row) {", "if (at > start && rows[at - 1] == -row) {");
    broken("WHAT FOLLOWS",
        "for (int i = 0; i <= traces.lengths[trace]; i++) {",
        "for (int i = 0; i < traces.lengths[trace]; i++) {");
    broken("STATES: PREFIXES", "int like = follows.firstLike(prefix);", "int like = prefix;");
    broken("STATES: PREFIXES", "return machine.leastPrefix[state];", "return state;");
    broken("(Without TRACES there",
        "            prefixes = 0;\n            for",
        "            prefixes = 0;\n            addPrefix(NONE, NONE);\n            for");
    broken("A STATE is FINAL",
        "return machine.enders[state] > 0 ? 1 : 0;",
        "return machine.enders[state] > 1 ? 1 : 0;");
    broken("A STATE is FINAL",
        "                return machine.enders[state] > 0 ? 1 : 0;",
        "                return machine.leavers(state) == 0 ? 1 : 0;");
    broken("FOLLOWS by DEPTH 0", "return machine.rows[state];", "return now.depth == 0 ? 0 : machine.rows[state];");
    broken("FOLLOWS by DEPTH 0", "            int row = 0;\n", "            int row = k == 0 ? from : 0;\n");
    broken("of just k LETTERS",
        "            return row;",
        "            return from + k == traces.lengths[trace] ? row + 1000000 : row;");
    broken("A number apart",
        "                digitsLeft = 0;\n                if (sign == ' ')",
        "                if (sign == ' ')");
    broken("EDGES: from", "tree.letter[prefix] * TO_BASE + stateOf[prefix];", "tree.letter[prefix] * TO_BASE;");
    broken("EDGES: from", "if (at == edges || keys[at] != key) {", "if (at <= edges) {");
    broken("with its SUPPORT", "support[edge] += tree.goers[prefix];", "support[edge]++;");
    broken("with its SUPPORT", "support[edge] += tree.goers[prefix];", "support[edge] = tree.goers[prefix];");
    broken("and its RANGE", "low[edge] = Math.min(low[edge], tree.low[prefix]);", "low[edge] = tree.low[prefix];");
    broken("and its RANGE", "high[edge] = Math.max(high[edge], tree.high[prefix]);", "high[edge] = tree.high[prefix];");
    broken("and its RANGE", "low[prefix] = Math.min(low[prefix], value);", "low[prefix] = value;");
    broken("and its RANGE", "high[prefix] = Math.max(high[prefix], value);", "high[prefix] = value;");
    broken("and its RANGE", "GREATEST_VALUE = 99;", "GREATEST_VALUE = 98;");
    broken("In order: by STATE", "if (keys[middle] < key) {", "if (keys[middle] > key) {");
    broken("In order: by STATE", "                return machine.to(i);", "                return machine.from(i);");
  }

  private void running() {
    below("Terms");
    broken("A text RUNS", "            sets.put(0, 0, 0);", "            sets.put(0, 0, states - 1);");
    broken("A text RUNS",
        "                            sets.put(1, 0, to(edge));",
        "                            sets.moveRow(1, 1);\n                            sets.put(1, 0, to(edge));");
    broken("A text RUNS", "if (letter(edge) == letter && value", "if (letter(edge) <= letter && value");
    broken("(GUARDED", "value >= low[edge] - slack", "value >= low[edge]");
    broken("(GUARDED", "value >= low[edge] - slack", "value > low[edge] - slack");
    broken("(GUARDED", "value <= high[edge] + slack", "value <= high[edge]");
    broken("(GUARDED", "value <= high[edge] + slack", "value < high[edge] + slack");
    broken("(GUARDED", "ANY_VALUE = 100;", "ANY_VALUE = 98;");
    broken("to a set of STATES",
        "                    return i;\n                }\n            }\n            return takes",
        "                    return i + 1;\n                }\n            }\n            return takes");
    broken("to a set of STATES", "if (sets.isEmpty(0)) {", "if (sets.isEmpty(0) && i == length - 1) {");
    broken("or at its end",
        "return takes(sets, 0, 0) ? NONE : length;",
        "return takes(sets, 0, 0) ? NONE : length - 1;");
    broken("or at its end", "return takes(sets, 0, 0) ? NONE : length;", "return NONE;");
    broken("(without TRACES: at 0)",
        "            if (states == 0) {\n                return 0;\n            }\n            sets",
        "            if (states == 0) {\n                return NONE;\n            }\n            sets");
    broken("(without TRACES: at 0)",
        "            if (states == 0) {\n                return 0;\n            }\n            sets",
        "            if (states == 0) {\n                return traces.lengths[trace];\n            }\n            sets");
    broken("else it is TAKEN", "return failed == NONE ? 1 : 0;", "return failed == NONE ? 0 : 1;");
    broken("else it is TAKEN", "if (tree.enders[prefix] > 0) {", "if (tree.enders[prefix] > 1) {");
    broken("MARGIN 0 .. 20", "GREATEST_MARGIN = 20;", "GREATEST_MARGIN = 19;");
    broken("MARGIN 0 .. 20", "GREATEST_MARGIN = 20;", "GREATEST_MARGIN = 21;");
    broken("MARGIN 0 .. 20", "        int margin;", "        int margin = 1;");
  }

  private void rulesAndOdd() {
    below("Terms");
    broken("RULES of two", "return lastY > lastX;", "return lastY > firstX;");
    broken("RULES of two", "!isLetter(y) || x == y) {", "!isLetter(y)) {");
    broken("1 ahead of each y", "return countX > 0 && firstX < firstY;", "return firstX < firstY;");
    broken("1 ahead of each y", "return countX > 0 && firstX < firstY;", "return countX > 0 && firstX < lastY;");
    broken("2 behind an x", "return lastY < firstX;", "return lastY < lastX;");
    broken("2 behind an x", "return lastY < firstX;", "return firstY < firstX;");
    broken("3 right behind",
        "if (i + 1 >= length || traces.letterAt(trace, i + 1) != y) {",
        "if (i + 1 < length && traces.letterAt(trace, i + 1) != y) {");
    broken("3 right behind", "            rightBehind = true;", "            rightBehind = false;");
    broken("4 there are",
        "                    return countX == countY;",
        "                    return countX >= countY;");
    broken("4 there are",
        "                    return countX == countY;",
        "                    return countX <= countY;");
    broken("5 x and y", "                    return inTurn;", "                    return inTurn || countX == countY;");
    broken("5 x and y",
        "            if (countX != countY) {\n                inTurn = false;\n            }\n        }\n\n        private void forgetLooks",
        "            if (countX < countY) {\n                inTurn = false;\n            }\n        }\n\n        private void forgetLooks");
    broken("ASKED of a TRACE", "return countX > 0;", "return countX > 0 || countY > 0;");
    broken("ASKED of a TRACE", "return countX > 0;", "return countX > 0 && countY > 0;");
    broken("of 1, if it has", "return countY > 0;", "return countX > 0 && countY > 0;");
    broken("of 1, if it has", "                case 1:\n                    return countY > 0;\n", "");
    broken("of 4, 5, if", "return countX > 0 || countY > 0;", "return countX > 0 && countY > 0;");
    broken("of 4, 5, if", "return countX > 0 || countY > 0;", "return countX >= 0;");
    broken("ODD: WEAKNESS",
        "if (support < weakness[trace]) {",
        "if (support < weakness[trace] && calls[trace] == 0) {");
    broken("ODD: WEAKNESS",
        "for (int i = 1; i <= traces.lengths[trace]; i++) {\n                    meet(",
        "for (int i = 1; i < traces.lengths[trace]; i++) {\n                    meet(");
    broken("(999 without", "WEAKNESS_WITHOUT_CALLS = 999;", "WEAKNESS_WITHOUT_CALLS = 998;");
    broken("(999 without", "WEAKNESS_WITHOUT_CALLS = 999;", "WEAKNESS_WITHOUT_CALLS = 0;");
    broken("TRACES by it", "return weakness[other] < weakness[trace];", "return weakness[other] > weakness[trace];");
    broken("TRACES by it",
        "            if (weakness[other] != weakness[trace]) {",
        "            if (calls[other] == calls[trace] && weakness[other] != weakness[trace]) {");
    broken("of like ones that which", "return calls[other] > calls[trace];", "return calls[other] < calls[trace];");
    broken("of like ones that which", "                calls[trace]++;", "                calls[trace] = 1;");
    broken("of like ones that which",
        "                calls[trace] = 0;\n            }\n            if (support ==",
        "            }\n            if (support ==");
    broken("then the lower", "return other < trace;", "return other > trace;");
  }

  private void heldAndWords() {
    below("Terms");
    broken("HELD OUT a TRACE", "without = leftOut;", "without = NONE;");
    broken("HELD OUT a TRACE",
        "machineOfOthers.fold(now, treeOfOthers, follows, k);",
        "machineOfOthers.fold(now, treeOfOthers, follows, now.depth);");
    broken("(without others: not)",
        "            if (states == 0) {\n                return 0;\n            }\n            sets",
        "            if (states == 0) {\n                return NONE;\n            }\n            sets");
    broken("(without others: not)", "without = leftOut;", "without = NONE;");
    broken("HELD OUT, GUARDED",
        "machineOfOthers.failsAt(now, trace, slack(guarded), running)",
        "machineOfOthers.failsAt(now, trace, guarded ? 0 : ANY_VALUE, running)");
    broken("HELD OUT, GUARDED", "without = leftOut;", "without = NONE;");
    broken("WORDS are rows", "if (machine.takes(fan, letter, 0)) {", "if (!fan.isEmpty(letter)) {");
    broken("WORDS are rows", "return machine.takes(here, 0, 0) ? 1 : 0;", "return 1;");
    broken("words(): unlike", "MOST_SETS = 100;", "MOST_SETS = 99;");
    broken("words(): unlike", "MOST_SETS = 100;", "MOST_SETS = 101;");
    broken("words(): unlike",
        "if (!fan.isEmpty(letter) && !comeTo(letter, wordsHere[row])) {",
        "if (!comeTo(letter, wordsHere[row])) {");
    broken("words(): unlike",
        "            return takenNext(machine);",
        "            int taken = takenNext(machine);\n            return goOn(machine) ? taken : TOO_MANY;");
    broken("words(): unlike",
        "                if (!goOn(machine)) {\n                    return TOO_MANY;",
        "                if (!goOn(machine)) {\n                    return NONE;");
    broken("apart(): the two", "MOST_TWOS = 400;", "MOST_TWOS = 399;");
    broken("apart(): the two", "MOST_TWOS = 400;", "MOST_TWOS = 401;");
    broken("-2 for each i", "if (letters == TOO_MANY || i == NONE) {", "if (i == NONE) {");
    broken("-2 for each i",
        "if (letters == TOO_MANY || i == NONE) {",
        "if ((letters == TOO_MANY && i >= NONE) || i == NONE) {");
  }

  private void walks() {
    below("Terms");
    broken("A WALK by a seed",
        "int rest = s % all - machine.enders[state];",
        "int rest = s % all - machine.enders[state] + 1;");
    broken("A WALK by a seed",
        "int all = machine.enders[state] + machine.leavers(state);",
        "int all = machine.enders[state] + machine.leavers(state) + 1;");
    broken("the rest goes", "                    rest -= machine.support[edge];", "                    rest--;");
    broken("the rest goes", "rest >= machine.support[edge]) {", "rest > machine.support[edge]) {");
    broken("12 LETTERS at most",
        "                if (letters == MOST_CALLS) {\n                    return LOST;",
        "                if (letters == MOST_CALLS) {\n                    return letters;");
    broken("12 LETTERS at most",
        "                if (rest < 0) {\n                    return letters;",
        "                if (rest < 0) {\n                    return letters == MOST_CALLS ? LOST : letters;");
    broken("A DRAW of m", "DRAW_TIMES = 1103;", "DRAW_TIMES = 1104;");
    broken("A DRAW of m", "DRAW_AND = 12345;", "DRAW_AND = 12346;");
    broken("A DRAW of m", "DRAW_MODULO = 1000003;", "DRAW_MODULO = 1000001;");
    broken("A DRAW of a WALK is",
        "                s = (DRAW_TIMES * s + DRAW_AND) % DRAW_MODULO;",
        "                if (machine.enders[state] > 0 || machine.firstEdge[state + 1] - machine.firstEdge[state] > 1) {\n                    s = (DRAW_TIMES * s + DRAW_AND) % DRAW_MODULO;\n                }");
    broken("the 12 LETTERS of a LOST", "int told = letters == LOST ? MOST_CALLS : letters;", "int told = letters;");
    broken("the 12 LETTERS of a LOST",
        "int told = letters == LOST ? MOST_CALLS : letters;",
        "int told = letters == LOST ? MOST_CALLS - 1 : letters;");
    broken("cover() without",
        "        Machine machine = machine(now.depth);\n        if (!covering.known) {",
        "        Machine machine = machine(now.depth);\n        if (now.count == 0) {\n            return NONE;\n        }\n        if (!covering.known) {");
  }

  private void actsAndRefused() {
    below("Terms");
    broken("traces() and run() empty",
        "        int fault = text.parse(read, false);\n        text.cut(0);",
        "        int fault = text.parse(read, false);\n        text.cut(fault == NONE ? 0 : NONE);");
    broken("traces() and run() empty",
        "        int fault = text.parse(read, false);\n        text.cut(0);",
        "        int fault = text.parse(read, false);\n        text.cut(fault == NONE ? NONE : 0);");
    broken("traces() and run() empty",
        "        int fault = text.parse(read, true);\n        text.cut(0);",
        "        int fault = text.parse(read, true);\n        text.cut(fault == NONE ? 0 : NONE);");
    broken("traces() and run() empty",
        "        int fault = text.parse(read, true);\n        text.cut(0);",
        "        int fault = text.parse(read, true);\n        text.cut(fault == NONE ? NONE : 0);");
    broken("with a FAULT all else",
        "        read.copyFrom(now);\n        int fault = text.parse(read, false);",
        "        int fault = text.parse(now, false);\n        read.copyFrom(now);");
    broken("with a FAULT all else",
        "            return FAULT - fault;\n        }\n        remember();",
        "            remember();\n            return FAULT - fault;\n        }\n        remember();");
    broken("with a FAULT all else",
        "            return FAULT - fault;\n        }\n        int failed",
        "            ran[0] = fault;\n            return FAULT - fault;\n        }\n        int failed");
    broken("Acts: traces()", "        remember();\n        now.copyFrom(read);", "        now.copyFrom(read);");
    broken("Acts: traces()", "        remember();\n        now.remove(trace);", "        now.remove(trace);");
    broken("Acts: traces()", "        remember();\n        now.depth = k;", "        now.depth = k;");
    broken("Acts: traces()", "        remember();\n        now.margin = w;", "        now.margin = w;");
    broken("Acts: traces()",
        "        if (was == w) {\n            return ALREADY;",
        "        if (was == w) {\n            remember();\n            return ALREADY;");
    broken("the latest 8", "MOST_UNDONE = 8;", "MOST_UNDONE = 7;");
    broken("the latest 8", "MOST_UNDONE = 8;", "MOST_UNDONE = 9;");
    broken("the latest 8", "            margin = other.margin;\n", "");
    broken("the latest 8", "            depth = other.depth;\n", "");
    broken("the latest 8", "            count = other.count;\n            depth", "            depth");
    broken("the latest 8",
        "pastNext = pastNext == 0 ? MOST_UNDONE - 1 : pastNext - 1;",
        "pastNext = pastNext == 0 ? 0 : pastNext - 1;");
    broken("All that is asked", "        tree.known = false;\n", "");
    broken("All that is asked", "            machines[k].known = false;\n", "            machines[0].known = false;\n");
    broken("All that is asked", "        parting.known = false;\n", "");
    broken("All that is asked", "        covering.known = false;\n", "");
    broken("All that is asked",
        "        covering.known = false;\n        Arrays.fill(fits, NONE);",
        "        covering.known = false;");
    broken("the latest run() is told",
        "        covering.known = false;\n",
        "        covering.known = false;\n        Arrays.fill(ran, NONE);\n");
    broken("the latest run() is told",
        "        int failed = machine",
        "        if (now.count == 0) {\n            return 0;\n        }\n        int failed = machine");
    broken("REFUSED calls", "NO_NUMBER = -1;", "NO_NUMBER = -2;");
    broken("REFUSED calls",
        "        if (!isDepth(k)) {\n            return NO_NUMBER;",
        "        if (!isDepth(k)) {\n            remember();\n            return NO_NUMBER;");
    broken("REFUSED calls",
        "        if (w < 0 || w > GREATEST_MARGIN) {\n",
        "        if (w < 0 || w > GREATEST_MARGIN) {\n            now.margin = GREATEST_MARGIN;\n");
    broken("-2 no such", "NO_SUCH = -2;", "NO_SUCH = -1;");
    broken("-2 no such", "            return NO_SUCH;", "            remember();\n            return NO_SUCH;");
    broken("-3 it is so", "ALREADY = -3;", "ALREADY = -2;");
    broken("-3 it is so",
        "        if (was == k) {\n            return ALREADY;",
        "        if (was == k) {\n            remember();\n            return ALREADY;");
  }

  private void objects() {
    below("What it is");
    broken("An object is used",
        "    public int walk(int seed, int i) {\n",
        "    private int calls;\n\n    public int walk(int seed, int i) {\n        calls++;\n        if (calls > 500) {\n            return NONE;\n        }\n");
  }

  private void textsAndActs() {
    below("Promise 1");
    broken("No TRACES", "        int depth = 1;", "        int depth = 0;");
    broken("No TRACES", "        Arrays.fill(ran, NONE);\n", "");
    below("Promise 2");
    broken("Four signs",
        "for (int shift = 24; shift >= 0; shift -= 8) {",
        "for (int shift = 0; shift <= 24; shift += 8) {");
    broken("Four signs", "(v >>> shift) & 255", "(v >>> shift) & 127");
    broken("Four signs",
        "return text.put(v) ? text.length : NONE;",
        "return text.put(v) ? text.length / 4 * 4 : NONE;");
    broken("NONE, and none", "if (length + 4 > MOST_SIGNS) {", "if (length + 4 >= MOST_SIGNS) {");
    broken("NONE, and none",
        "if (length + 4 > MOST_SIGNS) {",
        "if (length + 4 > MOST_SIGNS) {\n                length = MOST_SIGNS;");
    broken("NONE, and none", "if (length + 4 > MOST_SIGNS) {", "if (length >= MOST_SIGNS) {");
    below("Promise 3");
    broken("THE TEXT has", "            length = n;\n            return true;", "            return true;");
    broken("THE TEXT has", "if (n < 0 || n > length) {", "if (n < 0 || n >= length) {");
    broken("false: it has", "if (n < 0 || n > length) {", "if (n < 0 || n > MOST_SIGNS) {");
    broken("false: it has", "if (n < 0 || n > length) {", "if (n > length) {");
    broken("false: it has", "if (n < 0 || n > length) {", "if (n < -1 || n > length) {");
    below("Promise 4");
    broken("TRACES of THE TEXT",
        "        now.copyFrom(read);\n        forgetFound();\n        return now.count;",
        "        int was = now.count;\n        now.copyFrom(read);\n        forgetFound();\n        return now.count - was;");
    broken("-1000 and less",
        "            return FAULT - fault;\n        }\n        remember();",
        "            return FAULT - fault - 1;\n        }\n        remember();");
    broken("-1000 and less",
        "            return FAULT - fault;\n        }\n        remember();",
        "            return FAULT + fault;\n        }\n        remember();");
    below("Promise 5");
    broken("A TRACE goes",
        "            System.arraycopy(values, to + MOST_CALLS, values, to, behind * MOST_CALLS);\n",
        "");
    broken("A TRACE goes",
        "            System.arraycopy(letters, to + MOST_CALLS, letters, to, behind * MOST_CALLS);\n",
        "");
    broken("A TRACE goes", "            System.arraycopy(lengths, trace + 1, lengths, trace, behind);\n", "");
    broken("A TRACE goes",
        "            int behind = count - trace - 1;",
        "            int behind = Math.max(count - trace - 2, 0);");
    broken("-2.", "            return NO_SUCH;", "            return NONE;");
    broken("-2.",
        "        if (!now.has(trace)) {\n            return NO_SUCH;",
        "        if (trace < 0 || trace > now.count) {\n            return NO_SUCH;");
    below("Promise 6");
    broken("DEPTH (0",
        "        now.depth = k;\n        forgetFound();\n        return was;",
        "        now.depth = k;\n        forgetFound();\n        return k;");
    broken("-1;", "return k >= 0 && k < DEPTHS;", "return k >= 0 && k <= DEPTHS;");
    broken("-1;", "return k >= 0 && k < DEPTHS;", "return k >= -1 && k < DEPTHS;");
    broken("-3.", "        if (was == k) {", "        if (was == k && k != 1) {");
    below("Promise 7");
    broken("MARGIN (0",
        "        now.margin = w;\n        forgetFound();\n        return was;",
        "        now.margin = w;\n        forgetFound();\n        return w;");
    broken("MARGIN (0", "if (w < 0 || w > GREATEST_MARGIN) {", "if (w <= 0 || w > GREATEST_MARGIN) {");
    broken("MARGIN (0", "if (w < 0 || w > GREATEST_MARGIN) {", "if (w < 0 || w >= GREATEST_MARGIN) {");
    broken("-1;", "if (w < 0 || w > GREATEST_MARGIN) {", "if (w < -1 || w > GREATEST_MARGIN) {");
    broken("-1;", "if (w < 0 || w > GREATEST_MARGIN) {", "if (w < 0 || w > GREATEST_MARGIN + 1) {");
    broken("-3.", "        if (was == w) {", "        if (was == w && w > 0) {");
    below("Promise 8");
    broken("The latest act",
        "        return pastCount;\n    }\n\n    // ---- what there is",
        "        return pastCount + 1;\n    }\n\n    // ---- what there is");
    broken("The latest act", "        now.copyFrom(past[pastNext]);\n", "");
    broken("The latest act",
        "pastNext = pastNext == MOST_UNDONE - 1 ? 0 : pastNext + 1;",
        "pastNext = pastNext == MOST_UNDONE - 1 ? MOST_UNDONE - 1 : pastNext + 1;");
    broken("-3: none",
        "        if (pastCount == 0) {\n            return ALREADY;",
        "        if (pastCount == 0) {\n            return 0;");
    broken("-3: none", "        pastCount = 0;\n        forgetFound();", "        forgetFound();");
  }

  private void whatThereIs() {
    below("Promise 9");
    broken("CALLS of a TRACE", "if (i == NONE && what == 0) {", "if (i == NONE && what == 1) {");
    broken("of the i-th",
        "                return tree.prefixAt(trace, i + 1);",
        "                return tree.prefixAt(trace, i);");
    broken("of the i-th",
        "return machine.stateOf[tree.prefixAt(trace, i + 1)];",
        "return machine.stateOf[tree.prefixAt(trace, i)];");
    broken("of the i-th",
        "                return now.valueAt(trace, i);",
        "                return now.valueAt(trace, 0);");
    broken("of the i-th", "return signOf(now.letterAt(trace, i));", "return now.letterAt(trace, i);");
    broken("NoSuchElement",
        "            throw new NoSuchElementException(\"no such trace\");",
        "            return NONE;");
    broken("NoSuchElement",
        "        if (!now.has(trace)) {\n            throw",
        "        if (i < NONE) {\n            return NONE;\n        }\n        if (!now.has(trace)) {\n            throw");
    broken("NONE: others", "if (i == NONE && what == 0) {", "if (i == NONE) {");
    broken("NONE: others", "if (i < 0 || i >= now.lengths[trace]) {", "if (i < 0 || i >= MOST_CALLS) {");
    broken("NONE: others",
        "return machine.stateOf[tree.prefixAt(trace, i + 1)];\n            default:\n                return NONE;",
        "return machine.stateOf[tree.prefixAt(trace, i + 1)];\n            default:\n                return 0;");
    below("Promise 10");
    broken("Of a STATE", "enders[state] += tree.enders[prefix];", "enders[state] = tree.enders[prefix];");
    broken("Of a STATE", "                return machine.prefixes[state];", "                return 1;");
    broken("Of a STATE",
        "                return machine.enders[state];",
        "                return machine.enders[state] > 0 ? 1 : 0;");
    broken("Of a STATE",
        "return machine.firstEdge[state + 1] - machine.firstEdge[state];",
        "return machine.leavers(state);");
    broken("Of a STATE",
        "                return machine.leavers(state);",
        "                return machine.firstEdge[state + 1] - machine.firstEdge[state];");
    broken("Of a STATE", "                return machine.rows[state];", "                return 1;");
    broken("NONE: no such",
        "if (state < 0 || state >= machine.states) {",
        "if (state < 0 || state > machine.states) {");
    broken("NONE: no such",
        "return machine.rows[state];\n            default:\n                return NONE;",
        "return machine.rows[state];\n            default:\n                return 0;");
    below("Promise 11");
    broken("The i-th EDGE", "                return machine.from(i);", "                return machine.to(i);");
    broken("The i-th EDGE", "return signOf(machine.letter(i));", "return machine.letter(i);");
    broken("The i-th EDGE", "                return machine.support[i];", "                return 1;");
    broken("The i-th EDGE", "                return machine.low[i];", "                return machine.high[i];");
    broken("The i-th EDGE", "                return machine.high[i];", "                return machine.low[i];");
    broken("NONE: others", "if (i < 0 || i >= machine.edges) {", "if (i < 0 || i > machine.edges) {");
    broken("NONE: others",
        "return machine.high[i];\n            default:\n                return NONE;",
        "return machine.high[i];\n            default:\n                return 0;");
    below("Promise 12");
    broken("Pairs of EDGES",
        "if (keys[next] / TO_BASE != keys[edge] / TO_BASE) {",
        "if (keys[next] / FROM_BASE != keys[edge] / FROM_BASE) {");
    broken("Pairs of EDGES",
        "if (keys[next] / TO_BASE != keys[edge] / TO_BASE) {",
        "if (next > edge + 1 || keys[next] / TO_BASE != keys[edge] / TO_BASE) {");
    broken("Pairs of EDGES",
        "if (keys[next] / TO_BASE != keys[edge] / TO_BASE) {",
        "if (letter(next) != letter(edge)) {");
    broken("of these those", "if (least <= greatest) {", "if (least < greatest) {");
    broken("of these those", "Math.max(low[edge], low[next]) - slack;", "Math.max(low[edge], low[next]);");
    broken("of these those", "Math.min(high[edge], high[next]) + slack;", "Math.min(high[edge], high[next]);");
    broken("NONE: others", "machine(now.depth).forks(now.margin) : NONE;", "machine(now.depth).forks(now.margin) : 0;");
  }

  private void runs() {
    below("Promise 13");
    broken("THE TEXT, one", "if (sign == ';' && !single) {", "if (sign == ';') {");
    broken("THE TEXT, one", "failsAt(read, 0, slack(guarded), running);", "failsAt(read, 0, slack(false), running);");
    broken("THE TEXT, one", "failsAt(read, 0, slack(guarded), running);", "failsAt(read, 0, slack(true), running);");
    broken("-1000 and less",
        "            return FAULT - fault;\n        }\n        int failed",
        "            return FAULT - fault - 1;\n        }\n        int failed");
    below("Promise 14");
    broken("Of the latest", "        ran[0] = failed;", "        ran[0] = Math.max(failed, 0);");
    broken("Of the latest", "        ran[0] = failed;", "        ran[0] = Math.min(failed, 2);");
    broken("how many STATES", "        ran[1] = running.size(0);", "        ran[1] = running.isEmpty(0) ? 0 : 1;");
    broken("how many STATES", "        ran[1] = running.size(0);", "        ran[1] = Math.max(running.size(0), 1);");
    broken("the least of", "        ran[2] = running.least(0);", "        ran[2] = running.isEmpty(0) ? NONE : 0;");
    broken("the least of", "        ran[2] = running.least(0);", "        ran[2] = Math.max(running.least(0), 0);");
    broken("NONE: ahead", "ran[what] : NONE;", "ran[what] : 0;");
    broken("NONE: ahead", "        Arrays.fill(ran, NONE);\n", "");
    below("Promise 15");
    broken("COVER: the fewest", "                bestSize = size;", "                bestSize = 0;");
    broken("COVER: the fewest",
        "return what == 0 ? Integer.bitCount(covering.best) : covering.best;",
        "return what == 0 ? Math.min(Integer.bitCount(covering.best), 19) : covering.best;");
    broken("they (1;", "(size == bestSize && chosen >= best)) {", "(size == bestSize && chosen <= best)) {");
    broken("they (1;", "if (size > bestSize || (size == bestSize && chosen >= best)) {", "if (size >= bestSize) {");
    broken("they (1;", "|= 1 << trace;", "|= 1 << (trace & 15);");
    broken("NONE: others",
        "        if (what != 0 && what != 1) {\n            return NONE;\n        }\n        Machine",
        "        if (what != 0 && what != 1) {\n            return 0;\n        }\n        Machine");
    below("Promise 16");
    broken("In how many", "MOST_WAYS = 1000000;", "MOST_WAYS = 999999;");
    broken("In how many", "MOST_WAYS = 1000000;", "MOST_WAYS = 287;");
    broken("In how many",
        "                if (machine.enders[state] > 0) {\n                    ways",
        "                if (machine.enders[state] >= 0) {\n                    ways");
    broken("In how many", "ways = Math.min(ways + waysHere[state], MOST_WAYS);", "ways = ways + waysHere[state];");
    broken("NONE: no such",
        "wordsFound.waysOf(now, trace, machine(now.depth)) : NONE;",
        "wordsFound.waysOf(now, trace, machine(now.depth)) : 0;");
  }

  private void wordsFound() {
    below("Promise 17");
    broken("How many WORDS", "                        taken += wordsHere[row];", "                        taken++;");
    broken("How many WORDS", "return n >= 0 && n <= MOST_LETTERS ?", "return n >= 0 && n < MOST_LETTERS ?");
    broken("How many WORDS",
        "            if (machine.states == 0) {\n                return 0;\n            }\n            fan",
        "            if (machine.states == 0) {\n                return 1;\n            }\n            fan");
    broken("NONE: others", "return n >= 0 && n <= MOST_LETTERS ?", "return n >= 0 && n <= MOST_LETTERS + 1 ?");
    broken("NONE: others", "return n >= 0 && n <= MOST_LETTERS ?", "return n <= MOST_LETTERS ?");
    broken("-2: more", "MOST_SETS = 100;", "MOST_SETS = 99;");
    broken("-2: more", "MOST_SETS = 100;", "MOST_SETS = 101;");
    below("Promise 18");
    broken("The least word", "signOf(parting.word[i])", "signOf(parting.word[letters - 1 - i])");
    broken("The least word",
        "for (int two = 0; two < MOST_TWOS && two < twos.count; two++) {",
        "for (int two = 1; two < MOST_TWOS && two < twos.count; two++) {");
    broken("The least word", "MOST_LETTERS = 8;", "MOST_LETTERS = 7;");
    broken("The least word",
        "            parting.find(machine(k), machine(other));",
        "            parting.find(machine(now.depth), machine(other));");
    broken("The least word",
        "                if (at == before) {\n                    cameFrom",
        "                if (at == before || cameFrom[at] == two) {\n                    cameFrom");
    broken("NONE: none of 8", "MOST_LETTERS = 8;", "MOST_LETTERS = 9;");
    broken("NONE: none of 8",
        "if (lengths[two] < MOST_LETTERS && !goOn(one, other, two)) {",
        "if (!goOn(one, other, two)) {");
    broken("NONE: none of 8",
        "        if (!isDepth(k) || !isDepth(other)) {\n            return NONE;",
        "        if (!isDepth(k) || !isDepth(other)) {\n            return NO_SUCH;");
    broken("-2: twos", "MOST_TWOS = 400;", "MOST_TWOS = 399;");
    broken("-2: twos", "MOST_TWOS = 400;", "MOST_TWOS = 401;");
    broken("-2: twos",
        "                int before = twos.count;\n                int at = twos.indexOf(fan, letter);",
        "                if (fan.isEmpty(letter)) {\n                    continue;\n                }\n                int before = twos.count;\n                int at = twos.indexOf(fan, letter);");
    broken("-2: twos",
        "                if (one.takes(twos, two, 0) != other.takes(twos, two, 1)) {\n",
        "                if (lengths[two] < MOST_LETTERS && !goOn(one, other, two)) {\n                    letters = TOO_MANY;\n                    return;\n                }\n                if (one.takes(twos, two, 0) != other.takes(twos, two, 1)) {\n");
    below("Promise 19");
    broken("A WALK by a seed",
        "        if (i == NONE) {\n            return letters;\n        }\n        int told",
        "        if (i == NONE) {\n            return letters == LOST ? MOST_CALLS : letters;\n        }\n        int told");
    broken("A WALK by a seed", "seed < 0 || seed >= MOST_SEEDS ||", "seed < 0 || seed >= MOST_SEEDS - 1 ||");
    broken("A WALK by a seed", "seed < 0 || seed >= MOST_SEEDS ||", "seed <= 0 || seed >= MOST_SEEDS ||");
    broken("A WALK by a seed", "int told = letters == LOST ? MOST_CALLS : letters;", "int told = letters;");
    broken("NONE: no TRACES", "seed < 0 || seed >= MOST_SEEDS ||", "seed < 0 || seed > MOST_SEEDS ||");
    broken("NONE: no TRACES", "seed >= MOST_SEEDS || now.count == 0) {", "seed >= MOST_SEEDS) {");
    broken("NONE: no TRACES", "int told = letters == LOST ? MOST_CALLS : letters;", "int told = MOST_CALLS;");
  }

  private void rules() {
    below("Promise 20");
    broken("A RULE", "return what == 0 ? pair.asked : pair.so;", "return what == 1 ? pair.asked : pair.so;");
    broken("A RULE", "return kind >= 0 && kind < KINDS;", "return kind >= 0 && kind < KINDS - 1;");
    broken("A RULE", "return letter >= 0 && letter < LETTERS;", "return letter >= 0 && letter < LETTERS - 1;");
    broken("A RULE", "                if (isAsked(kind)) {", "                if (isAsked(kind) || isSo(kind)) {");
    broken("NONE: others", "return kind >= 0 && kind < KINDS;", "return kind >= 0 && kind <= KINDS;");
    broken("NONE: others", "return letter >= 0 && letter < LETTERS;", "return letter >= 0 && letter <= LETTERS;");
    broken("NONE: others",
        "        if (what != 0 && what != 1) {\n            return NONE;\n        }\n        pair",
        "        pair");
    broken("NONE: others", "!isLetter(y) || x == y) {", "!isLetter(y)) {");
    below("Promise 21");
    broken("RULES of a kind", "return asked >= least && so == asked;", "return asked > least && so == asked;");
    broken("RULES of a kind", "return asked >= least && so == asked;", "return asked >= least && so > 0;");
    broken("RULES of a kind", "least < 1 || least > MOST_TRACES ||", "least < 1 || least >= MOST_TRACES ||");
    broken("RULES of a kind", "                    return xy;", "                    return 10 * y + x;");
    broken("RULES of a kind", "xy < LETTERS * LETTERS;", "xy < LETTERS * LETTERS - 2;");
    broken("NONE: others", "least < 1 || least > MOST_TRACES ||", "least < 0 || least > MOST_TRACES ||");
    broken("NONE: others", "least < 1 || least > MOST_TRACES ||", "least < 1 || least > MOST_TRACES + 1 ||");
    broken("NONE: others", "        return i == NONE ? found : NONE;", "        return found;");
  }

  private void oddAndHeld() {
    below("Promise 22");
    broken("WEAKNESS of a TRACE",
        "                return odds.calls[trace];",
        "                return Math.min(odds.calls[trace], 11);");
    broken("WEAKNESS of a TRACE",
        "                return odds.placeOf(trace);",
        "                return odds.placeOf(trace) + 1;");
    broken("WEAKNESS of a TRACE", "                calls[trace]++;", "                calls[trace] = 1;");
    broken("NONE: others",
        "if (!now.has(trace) || what < 0 || what > 2) {",
        "if (!now.has(trace) || what < 0 || what > 3) {");
    broken("NONE: others",
        "if (!now.has(trace) || what < 0 || what > 2) {",
        "if (trace < 0 || trace >= MOST_TRACES || what < 0 || what > 2) {");
    below("Promise 23");
    broken("The i-th TRACE", "if (odds.placeOf(trace) == i) {", "if (odds.placeOf(trace) == now.count - 1 - i) {");
    broken("The i-th TRACE", "return other < trace;", "return other > trace;");
    broken("NONE.",
        "    public int oddest(int i) {\n        if (!now.has(i)) {\n            return NONE;",
        "    public int oddest(int i) {\n        if (!now.has(i)) {\n            return NO_SUCH;");
    below("Promise 24");
    broken("Whether a TRACE",
        "return takenByOthers(trace, guarded) ? 1 : 0;",
        "return takenByOthers(trace, false) ? 1 : 0;");
    broken("Whether a TRACE",
        "        foldOthers(trace, k);\n        return",
        "        foldOthers(trace, Math.min(k, 2));\n        return");
    broken("Whether a TRACE", "        treeOfOthers.grow(now, trace);", "        treeOfOthers.grow(now, NONE);");
    broken("NONE: others",
        "        if (!now.has(trace) || !isDepth(k)) {\n            return NONE;",
        "        if (!now.has(trace) || !isDepth(k)) {\n            return 0;");
    below("Promise 25");
    broken("How many TRACES", "return guarded ? fits[free + 1] : fits[free];", "return fits[free];");
    broken("How many TRACES", "return guarded ? fits[free + 1] : fits[free];", "return fits[free + 1];");
    broken("How many TRACES", "        int free = 2 * k;", "        int free = 2 * now.depth;");
    broken("how many STATES",
        "                return machine(k).states;",
        "                return machine(now.depth).states;");
    broken("NONE: others",
        "return machine(k).states;\n            default:\n                return NONE;",
        "return machine(k).states;\n            default:\n                return 0;");
    broken("NONE: others",
        "    public int fit(int k, int what) {\n        if (!isDepth(k)) {\n            return NONE;",
        "    public int fit(int k, int what) {\n        if (!isDepth(k)) {\n            return 0;");
    below("Promise 26");
    broken("The DEPTH by", "machine(k).states > machine(best).states", "machine(k).states >= machine(best).states");
    broken("The DEPTH by", "machine(k).states > machine(best).states", "machine(k).states < machine(best).states");
    broken("The DEPTH by", "if (more > 0 || (more == 0 &&", "if (more != 0 || (more == 0 &&");
    broken("The DEPTH by",
        "return what == 0 ? best : fitting(best, false);",
        "return what == 0 ? best : fitting(best, true);");
    broken("The DEPTH by", "for (int k = 1; k < DEPTHS; k++) {", "for (int k = 1; k < DEPTHS - 1; k++) {");
    broken("NONE: no TRACES", "if (now.count == 0 || (what != 0 && what != 1)) {", "if (what != 0 && what != 1) {");
    broken("NONE: no TRACES", "if (now.count == 0 || (what != 0 && what != 1)) {", "if (now.count == 0) {");
  }

  private void kept() {
    below("Promise 27");
    broken("TRACES, DEPTH",
        "        kept[k].copyFrom(now);\n        return true;",
        "        kept[0].copyFrom(now);\n        return true;");
    broken("TRACES, DEPTH",
        "        if (kept[k] == null) {\n            kept[k] = new Traces();\n        }\n        kept[k].copyFrom(now);",
        "        if (kept[k] == null) {\n            kept[k] = new Traces();\n            kept[k].copyFrom(now);\n        }");
    broken("TRACES, DEPTH", "            margin = other.margin;\n", "");
    broken("TRACES, DEPTH",
        "            kept[k] = new Traces();\n        }\n        kept[k].copyFrom(now);",
        "        }\n        kept[k] = now;");
    broken("false: others",
        "        if (k < 0 || k >= MOST_KEPT) {\n            return false;",
        "        if (k < 0 || k >= MOST_KEPT) {\n            return true;");
    broken("false: others", "MOST_KEPT = 2;", "MOST_KEPT = 3;");
    below("Promise 28");
    broken("They are as", "        pastCount = 0;\n        forgetFound();", "        forgetFound();");
    broken("They are as", "        now.copyFrom(kept[k]);\n", "");
    broken("They are as", "        now.copyFrom(kept[k]);\n", "        now.copyFrom(kept[k]);\n        text.cut(0);\n");
    broken("false: others",
        "kept[k] == null) {\n            return false;",
        "kept[k] == null) {\n            return true;");
    broken("false: others",
        "kept[k] == null) {\n            return false;",
        "kept[k] == null) {\n            pastCount = 0;\n            return false;");
    below("Promise 29");
    broken("0 TRACES",
        "                return now.allCalls();",
        "                return Math.min(now.allCalls(), 239);");
    broken("0 TRACES",
        "                return machine(now.depth).finalStates();",
        "                return machine(now.depth).states;");
    broken("0 TRACES",
        "                return machine(now.depth).edges;",
        "                return machine(1).edges + 1;");
    broken("0 TRACES", "                return now.margin;", "                return now.depth;");
    broken("0 TRACES", "                return text.length;", "                return 0;");
    broken("0 TRACES",
        "        if (pastCount < MOST_UNDONE) {\n            pastCount++;",
        "        if (pastCount <= MOST_UNDONE) {\n            pastCount++;");
    broken("NONE: others",
        "                return pastCount;\n            default:\n                return NONE;",
        "                return pastCount;\n            default:\n                return 0;");
  }
}
