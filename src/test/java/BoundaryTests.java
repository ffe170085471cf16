/**
 * For each sentence of promises 1 to 13, and of the terms 1 and 2, that names a boundary case a test of its
 * own. Those of runs stand in RunBoundaryTests.
 */
public final class BoundaryTests {
    private static final int NONE = Checks.NONE, BAD = Checks.BAD, NO = Checks.NO, FULL = Checks.FULL;
    private static final int UNNUMBERED = Checks.UNNUMBERED, MIN = Checks.MIN, MAX = Checks.MAX;
    /** How many parts a NODE of each kind has; a CALL's stands behind the number of its FUNCTION. */
    private static final int[] PARTS = {0, 0, 0, 2, 2, 3, 2, 1, 1, 0, 2, 1, 1, 1, 1};

    private BoundaryTests() {
    }

    public static void main(String[] args) {
        newObjects();
        types();
        factsOfTypes();
        nodes();
        functions();
        typesInFunctions();
        wrongNodes();
        reaching();
        judging();
        copying();
        copyFacts();
        Checks.end("boundaries");
    }

    private static void sentence(String promise, String words, Runnable test) {
        Checks.sentence(promise, words, test);
    }

    private static void due(String what, long got, long want) {
        Checks.due(what, got, want);
    }

    private static void refused(String what, Checks.Scene scene, Checks.Asking call, int want) {
        Checks.refused(what, scene, call, want);
    }

    private static int[] outside(int size) {
        return Checks.outside(size);
    }

    // ---- promise 1

    private static void newObjects() {
        sentence("1", "TYPES 0 .. 3", BoundaryTests::newTypes);
        sentence("1", "no FUNCTIONS", BoundaryTests::newHasNoFunctions);
        sentence("1", "no NODES", BoundaryTests::newHasNoNodes);
        sentence("1", "no INPUT", BoundaryTests::newHasNoInput);
        sentence("1", "a new object", BoundaryTests::newKnowsNoOther);
    }

    private static void newTypes() {
        Asked x = new Asked();
        due("count(0)", x.count(0), 4);
        for (int t = 0; t < 4; t++) {
            due("type(" + t + ", 0)", x.type(t, 0), t);
        }
        due("type(4, 0)", x.type(4, 0), BAD);
        due("type(-1, 0)", x.type(-1, 0), BAD);
        due("the first that is made", x.list(0), 4);
        refused("a PAIR with one that is not there", Asked::new, y -> y.pair(0, 4), BAD);
        refused("a LIST of one that is not there", Asked::new, y -> y.list(4), BAD);
    }

    private static void newHasNoFunctions() {
        Asked x = new Asked();
        due("count(2)", x.count(2), 0);
        due("a NODE", x.number(1), 0);
        due("typeIn(0, 0)", x.typeIn(0, 0), BAD);
        due("wrong(0)", x.wrong(0), BAD);
        due("reaches(0, 0)", x.reaches(0, 0), BAD);
        due("body(0, 0)", x.body(0, 0), BAD);
        due("judge()", x.judge(), 1);
        due("copies()", x.copies(), NO);
        due("copy(0, 0)", x.copy(0, 0), NONE);
        due("run()", x.run(), NO);
        due("runCopies()", x.runCopies(), NO);
        due("the first", x.function(0, 0, 0), 0);
    }

    private static void newHasNoNodes() {
        Asked x = new Asked();
        due("count(1)", x.count(1), 0);
        due("a FUNCTION", x.function(0, 0, 0), 0);
        due("typeIn(0, 0)", x.typeIn(0, 0), BAD);
        due("body(0, 0)", x.body(0, 0), BAD);
        refused("FIRST of NODE 0", Asked::new, y -> y.on(7, 0), BAD);
        due("the first", x.number(8), 0);
    }

    private static void newHasNoInput() {
        Asked x = new Asked();
        due("count(3)", x.count(3), 0);
        due("empty()", x.empty(), 0);
        due("the first", x.input(7), 1);
    }

    private static void newKnowsNoOther() {
        Asked used = program();
        used.input(5);
        used.run();
        Asked x = new Asked();
        for (int what = 0; what <= 3; what++) {
            due("count(" + what + ")", x.count(what), what == 0 ? 4 : 0);
            due("told(" + what + ")", x.told(what), 0);
        }
        due("told(4)", x.told(4), NONE);
        due("result(0)", x.result(0), 0);
        due("judge()", x.judge(), 1);
    }

    // ---- promises 2 and 3

    /** Types 4 .. 7: LISTS of INT of DEPTH 2 .. 5. */
    private static Asked lists() {
        Asked x = new Asked();
        for (int t = 4; t <= 7; t++) {
            due("a LIST", x.list(t == 4 ? 0 : t - 1), t);
        }
        return x;
    }

    private static final int[] PAIRED = {0, 1, 2, 3, 4, 5, 6, 8, 9, 10, 11, 12, 13, 15};

    /** The LISTS of lists(), and PAIRS, so that so many are missing of 200. */
    private static Asked manyTypes(int missing) {
        Asked x = lists();
        int made = 8;
        for (int t : PAIRED) {
            for (int u : PAIRED) {
                if (made < 200 - missing) {
                    due("a PAIR", x.pair(t, u), made);
                    made++;
                }
            }
        }
        return x;
    }

    private static Asked allTypes() {
        return manyTypes(0);
    }

    private static void types() {
        sentence("2", "its number, like ones once", BoundaryTests::likePairs);
        sentence("2", "BAD", BoundaryTests::badPairs);
        sentence("2", "NO: it would be too deep", BoundaryTests::deepPairs);
        sentence("2", "FULL: it has none yet, and 200 have", BoundaryTests::fullPairs);
        sentence("2", "refused, the first of BAD, NO, FULL", BoundaryTests::pairsRefusedInOrder);
        sentence("3", "its number, like ones once", BoundaryTests::likeLists);
        sentence("3", "BAD", BoundaryTests::badLists);
        sentence("3", "NO: it would be too deep", BoundaryTests::deepLists);
        sentence("3", "FULL: it has none yet, and 200 have", BoundaryTests::fullLists);
        sentence("3", "refused, the first of BAD, NO, FULL", BoundaryTests::listsRefusedInOrder);
    }

    private static void likePairs() {
        Asked x = new Asked();
        due("PAIR of INT and TRUTH", x.pair(0, 1), 4);
        due("once more", x.pair(0, 1), 4);
        due("count(0)", x.count(0), 5);
        due("of TRUTH and INT", x.pair(1, 0), 5);
        due("of a part twice", x.pair(4, 4), 6);
        due("once more", x.pair(4, 4), 6);
        due("A and B are no like ones", x.pair(2, 3), 7);
        due("nor B and A", x.pair(3, 2), 8);
        due("deep at the left", x.pair(x.pair(0, 0), 0), 10);
        due("deep at the right", x.pair(0, 9), 11);
        due("once more", x.pair(9, 0), 10);
        due("count(0)", x.count(0), 12);
    }

    private static void badPairs() {
        for (int v : outside(8)) {
            refused("pair(" + v + ", 0)", BoundaryTests::lists, x -> x.pair(v, 0), BAD);
            refused("pair(0, " + v + ")", BoundaryTests::lists, x -> x.pair(0, v), BAD);
            refused("pair(" + v + ", " + v + ")", BoundaryTests::lists, x -> x.pair(v, v), BAD);
        }
    }

    private static void deepPairs() {
        Asked x = lists();
        due("DEPTH 5 by the first", x.pair(6, 0), 8);
        due("DEPTH 5 by the second", x.pair(0, 6), 9);
        due("DEPTH 5 by both", x.pair(6, 6), 10);
        due("its DEPTH", x.type(8, 3), 5);
        due("its DEPTH", x.type(9, 3), 5);
        due("its DEPTH", x.type(10, 3), 5);
        due("PAIR of a PAIR", x.pair(8, 0), NO);
        due("PAIR of a PAIR", x.pair(3, 9), NO);
        refused("DEPTH 6 by the first", BoundaryTests::lists, y -> y.pair(7, 0), NO);
        refused("DEPTH 6 by the second", BoundaryTests::lists, y -> y.pair(0, 7), NO);
        refused("DEPTH 6 by both", BoundaryTests::lists, y -> y.pair(7, 7), NO);
    }

    private static void fullPairs() {
        Asked x = manyTypes(1);
        due("count(0)", x.count(0), 199);
        due("the last", x.pair(15, 15), 199);
        due("count(0)", x.count(0), 200);
        due("the last once more", x.pair(15, 15), 199);
        due("one that has a number", x.pair(0, 0), 8);
        due("one that has none", x.pair(15, 13), FULL);
        due("count(0)", x.count(0), 200);
        due("type(200, 0)", x.type(200, 0), BAD);
        refused("one that has none", BoundaryTests::allTypes, y -> y.pair(15, 15), FULL);
        refused("another", BoundaryTests::allTypes, y -> y.pair(199, 0), FULL);
    }

    private static void pairsRefusedInOrder() {
        refused("NO ahead of FULL", BoundaryTests::allTypes, x -> x.pair(7, 0), NO);
        refused("NO ahead of FULL", BoundaryTests::allTypes, x -> x.pair(199, 7), NO);
        refused("BAD ahead of NO", BoundaryTests::lists, x -> x.pair(7, 8), BAD);
        refused("BAD ahead of NO", BoundaryTests::lists, x -> x.pair(8, 7), BAD);
        refused("BAD ahead of NO and FULL", BoundaryTests::allTypes, x -> x.pair(7, 200), BAD);
        refused("BAD ahead of FULL", BoundaryTests::allTypes, x -> x.pair(-1, 15), BAD);
        refused("BAD ahead of FULL", BoundaryTests::allTypes, x -> x.pair(15, 200), BAD);
    }

    private static void likeLists() {
        Asked x = new Asked();
        due("LIST of A", x.list(2), 4);
        due("once more", x.list(2), 4);
        due("count(0)", x.count(0), 5);
        due("of B", x.list(3), 5);
        due("of LIST of A", x.list(4), 6);
        due("once more", x.list(4), 6);
        due("no PAIR is like it", x.pair(2, 2), 7);
        due("once more", x.list(2), 4);
        due("count(0)", x.count(0), 8);
    }

    private static void badLists() {
        for (int v : outside(8)) {
            refused("list(" + v + ")", BoundaryTests::lists, x -> x.list(v), BAD);
        }
    }

    private static void deepLists() {
        Asked x = lists();
        due("DEPTH 5", x.type(7, 3), 5);
        due("of one of DEPTH 4", x.list(6), 7);
        int four = x.pair(0, 5);
        due("its DEPTH", x.type(four, 3), 4);
        due("LIST of a PAIR", x.type(x.list(four), 3), 5);
        due("LIST of a deeper PAIR", x.list(x.pair(0, four)), NO);
        refused("DEPTH 6", BoundaryTests::lists, y -> y.list(7), NO);
    }

    private static void fullLists() {
        Asked x = manyTypes(1);
        due("the last", x.list(1), 199);
        due("the last once more", x.list(1), 199);
        due("one that has a number", x.list(0), 4);
        due("one that has none", x.list(2), FULL);
        due("count(0)", x.count(0), 200);
        refused("one that has none", BoundaryTests::allTypes, y -> y.list(1), FULL);
        refused("of the last", BoundaryTests::allTypes, y -> y.list(199), FULL);
    }

    private static void listsRefusedInOrder() {
        refused("NO ahead of FULL", BoundaryTests::allTypes, x -> x.list(7), NO);
        refused("BAD ahead of FULL", BoundaryTests::allTypes, x -> x.list(200), BAD);
        refused("BAD ahead of FULL", BoundaryTests::allTypes, x -> x.list(-1), BAD);
    }

    // ---- promise 4

    /** 4 (A, B), 5 LIST of that, 6 (INT, LIST), 7 LIST of INT, 8 (INT, INT), 9 (8, 8), 10 (9, 9), 11 (10, 10). */
    private static Asked someTypes() {
        Asked x = new Asked();
        x.pair(2, 3);
        x.list(4);
        x.pair(0, 5);
        x.list(0);
        x.pair(0, 0);
        x.pair(8, 8);
        x.pair(9, 9);
        x.pair(10, 10);
        return x;
    }

    private static void factsOfTypes() {
        sentence("4", "BAD", BoundaryTests::badFacts);
        sentence("4", "0 what it is", BoundaryTests::kindsOfTypes);
        sentence("4", "1, 2 its parts' numbers (NONE)", BoundaryTests::partsOfTypes);
        sentence("4", "its parts' numbers, of 200 TYPES", BoundaryTests::partsOfAllTypes);
        sentence("4", "DEPTH: of the first four 1; else 1 more than the deeper part's", BoundaryTests::depthsOfTypes);
        sentence("4", "WIDTH (NONE: it has LETTERS)", BoundaryTests::widthsOfTypes);
        sentence("4", "which LETTERS it has (1 A, 2 B, 3 both)", BoundaryTests::lettersOfTypes);
    }

    private static void badFacts() {
        for (int v : outside(12)) {
            for (int what = 0; what <= 5; what++) {
                int asked = what;
                refused("type(" + v + ", " + what + ")", BoundaryTests::someTypes, x -> x.type(v, asked), BAD);
            }
        }
        for (int v : outside(6)) {
            refused("type(0, " + v + ")", BoundaryTests::someTypes, x -> x.type(0, v), BAD);
            refused("type(11, " + v + ")", BoundaryTests::someTypes, x -> x.type(11, v), BAD);
            refused("type(12, " + v + ")", BoundaryTests::someTypes, x -> x.type(12, v), BAD);
        }
    }

    private static void factDue(int what, int... want) {
        Asked x = someTypes();
        for (int t = 0; t < want.length; t++) {
            due("type(" + t + ", " + what + ")", x.type(t, what), want[t]);
        }
    }

    private static void kindsOfTypes() {
        factDue(0, 0, 1, 2, 3, 4, 5, 4, 5, 4, 4, 4, 4);
    }

    private static void partsOfAllTypes() {
        for (int what = 0; what <= 2; what++) {
            Asked x = allTypes();
            for (int made = 8; made < 200; made++) {
                int first = (made - 8) / PAIRED.length;
                int second = (made - 8) % PAIRED.length;
                due("type(" + made + ", " + what + ")", x.type(made, what), new int[] {4, PAIRED[first], PAIRED[second]}[what]);
            }
            due("once more", x.pair(15, 10), 199);
        }
    }

    private static void partsOfTypes() {
        factDue(1, NONE, NONE, NONE, NONE, 2, 4, 0, 0, 0, 8, 9, 10);
        factDue(2, NONE, NONE, NONE, NONE, 3, NONE, 5, NONE, 0, 8, 9, 10);
    }

    private static void depthsOfTypes() {
        factDue(3, 1, 1, 1, 1, 2, 3, 4, 2, 2, 3, 4, 5);
        Asked x = someTypes();
        due("deeper at the left", x.type(x.pair(5, 0), 3), 4);
        due("deeper at the right", x.type(x.pair(4, 9), 3), 4);
        Asked y = new Asked();
        int t = 3;
        for (int depth = 2; depth <= 5; depth++) {
            int half = t;
            t = y.pair(half, half);
            due("B alone in halves of halves", t, depth + 2);
            due("its DEPTH", y.type(t, 3), depth);
            due("its half", y.type(t, 1), half);
            due("its half", y.type(t, 2), half);
            due("its LETTERS", y.type(t, 5), 2);
            due("once more", y.pair(half, half), t);
        }
        due("DEPTH 6", y.pair(t, t), NO);
    }

    private static void widthsOfTypes() {
        factDue(4, 1, 1, NONE, NONE, NONE, NONE, NONE, 1, 2, 4, 8, 16);
        Asked x = someTypes();
        due("LIST of a wide one", x.type(x.list(10), 4), 1);
        due("PAIR of LISTS", x.type(x.pair(7, 7), 4), 2);
        due("a LETTER at the left", x.type(x.pair(2, 0), 4), NONE);
        due("a LETTER at the right", x.type(x.pair(0, 3), 4), NONE);
        due("a LETTER in a LIST", x.type(x.list(3), 4), NONE);
    }

    private static void lettersOfTypes() {
        factDue(5, 0, 0, 1, 2, 3, 3, 3, 0, 0, 0, 0, 0);
        Asked x = someTypes();
        due("A alone, twice", x.type(x.pair(2, x.list(2)), 5), 1);
        due("B alone, at the right", x.type(x.pair(1, x.list(3)), 5), 2);
        due("B and A", x.type(x.pair(3, 2), 5), 3);
    }

    // ---- promise 5

    /** FUNCTION 0 and 1, both RIGHT, the one using the other; NODES 0 .. 3, TYPE 4. */
    private static Asked program() {
        Asked x = new Asked();
        x.list(2);
        x.function(0, 0, 0);
        x.function(1, 2, 2);
        x.argument();
        x.number(5);
        x.call(1, 0, 0, NONE);
        x.on(3, 1, 2);
        x.body(1, 0);
        x.body(0, 3);
        return x;
    }

    /** NODES 0 .. 11 of DEPTH 1 .. 12, and twelve TYPES. */
    private static Asked deepNodes() {
        Asked x = someTypes();
        x.function(0, 0, 0);
        x.number(4);
        for (int n = 0; n < 11; n++) {
            x.on(7, n);
        }
        x.body(0, 0);
        return x;
    }

    /** deepNodes() and more, so that so many are missing of 200. */
    private static Asked manyNodes(int missing) {
        Asked x = deepNodes();
        for (int n = 12; n < 200 - missing; n++) {
            due("a NODE", x.number(n), n);
        }
        return x;
    }

    private static Asked allNodes() {
        return manyNodes(0);
    }

    /** A NODE of a kind with NODE 0 as all its parts but one. */
    private static int nodeWith(Asked x, int kind, int part, int n) {
        if (kind == 14) {
            return x.node(14, 0, n, NONE, NONE);
        }
        return x.node(kind, part == 0 ? n : 0, part == 1 ? n : 0, part == 2 ? n : 0, 0);
    }

    private static void nodes() {
        sentence("5", "BAD: kind (0 .. 14)", BoundaryTests::badKinds);
        sentence("5", "BAD: parts a, b, c that it wants are none", BoundaryTests::badParts);
        sentence("5", "BAD: TRUTH's n (a) is not 0, 1", BoundaryTests::badTruths);
        sentence("5", "BAD: NIL's TYPE (a)", BoundaryTests::badNils);
        sentence("5", "BAD: CALL's f (a) is not 0 .. 11", BoundaryTests::badCallees);
        sentence("5", "BAD: CALL's argument (b)", BoundaryTests::badArguments);
        sentence("5", "BAD: its TYPES t (c), u (d), which may be NONE", BoundaryTests::badCallTypes);
        sentence("5", "but u alone may not be there", BoundaryTests::secondTypeAlone);
        sentence("5", "what is not wanted is not looked at", BoundaryTests::notWanted);
        sentence("5", "what is not wanted is no part", BoundaryTests::notWantedIsNoPart);
        sentence("5", "NUMBER's n is a", BoundaryTests::numbers);
        sentence("5", "NO: it would be too deep", BoundaryTests::nodesTooDeep);
        sentence("5", "DEPTH: of one without parts 1; else 1 more than the deepest part's", BoundaryTests::depthsOfNodes);
        sentence("5", "FULL: 200", BoundaryTests::nodesFull);
        sentence("5", "refused, the first of BAD, NO, FULL", BoundaryTests::nodesRefusedInOrder);
    }

    private static void badKinds() {
        Asked x = program();
        due("kind 0", x.node(0, 0, 0, 0, 0), 4);
        due("kind 14", x.node(14, 0, 0, 0, 0), 5);
        for (int v : outside(15)) {
            refused("kind " + v, BoundaryTests::program, y -> y.node(v, 0, 0, 0, 0), BAD);
        }
    }

    private static void badParts() {
        for (int kind = 3; kind <= 13; kind++) {
            int asked = kind;
            due("kind " + kind + ", parts as they must be", nodeWith(program(), kind, 0, 3), 4);
            for (int part = 0; part < PARTS[kind]; part++) {
                int wanted = part;
                due("kind " + kind + ", part " + part, nodeWith(program(), kind, part, 3), 4);
                for (int v : outside(4)) {
                    refused("kind " + kind + ", part " + part + " is " + v, BoundaryTests::program,
                        x -> nodeWith(x, asked, wanted, v), BAD);
                }
            }
        }
    }

    private static void badTruths() {
        Asked x = program();
        due("TRUTH 0", x.truth(0), 4);
        due("TRUTH 1", x.truth(1), 5);
        for (int v : outside(2)) {
            refused("TRUTH " + v, BoundaryTests::program, y -> y.truth(v), BAD);
        }
    }

    private static void badNils() {
        Asked x = program();
        due("NIL of INT", x.on(9, 0), 4);
        due("NIL of the last TYPE", x.on(9, 4), 5);
        for (int v : outside(5)) {
            refused("NIL of " + v, BoundaryTests::program, y -> y.on(9, v), BAD);
        }
    }

    private static void badCallees() {
        Asked x = program();
        due("CALL of 0", x.call(0, 0), 4);
        due("CALL of 11, which is not there", x.call(11, 0), 5);
        for (int v : outside(12)) {
            refused("CALL of " + v, BoundaryTests::program, y -> y.call(v, 0), BAD);
        }
    }

    private static void badArguments() {
        Asked x = program();
        due("CALL on the last NODE", x.call(0, 3), 4);
        for (int v : outside(5)) {
            refused("CALL on " + v, BoundaryTests::program, y -> y.call(0, v == 5 ? 4 : v), BAD);
        }
    }

    private static void badCallTypes() {
        Asked x = program();
        due("neither", x.call(0, 0, NONE, NONE), 4);
        due("t alone", x.call(0, 0, 4, NONE), 5);
        due("both", x.call(0, 0, 0, 4), 6);
        for (int v : outside(5)) {
            if (v != NONE) {
                refused("t is " + v, BoundaryTests::program, y -> y.call(0, 0, v, NONE), BAD);
                refused("t is " + v + " with u", BoundaryTests::program, y -> y.call(0, 0, v, 0), BAD);
                refused("u is " + v, BoundaryTests::program, y -> y.call(0, 0, 0, v), BAD);
            }
        }
    }

    private static void secondTypeAlone() {
        for (int u = 0; u <= 4; u++) {
            int asked = u;
            refused("u alone is " + u, BoundaryTests::program, x -> x.call(0, 0, NONE, asked), BAD);
        }
        refused("u alone is none", BoundaryTests::program, x -> x.call(0, 0, NONE, 5), BAD);
    }

    private static void notWanted() {
        for (int v : outside(4)) {
            Asked x = program();
            Asked like = program();
            for (int kind = 0; kind <= 13; kind++) {
                int wants = kind == 2 ? 0 : Math.max(1, PARTS[kind]);
                int n = x.node(kind, wants > 0 ? 0 : v, wants > 1 ? 0 : v, wants > 2 ? 0 : v, v);
                due("kind " + kind + " with " + v + " that is not wanted", n, 4 + kind);
                like.node(kind, 0, 0, 0, 0);
            }
            due("digest()", x.digest(), like.digest());
        }
    }

    /** NODE 1 is a CALL of FUNCTION 1, NODE 2 a NODE that is WRONG; both stand where they are not wanted. */
    private static void notWantedIsNoPart() {
        Asked x = new Asked();
        for (int f = 0; f < 3; f++) {
            x.function(0, 0, 0);
        }
        x.argument();
        x.call(1, 0);
        x.on(7, 0);
        for (int kind = 0; kind <= 13; kind++) {
            int wants = kind == 2 ? 0 : Math.max(1, PARTS[kind]);
            for (int v = 1; v <= 2; v++) {
                int n = x.node(kind, wants > 0 ? 0 : v, wants > 1 ? 0 : v, wants > 2 ? 0 : v, v);
                due("its BODY becomes it", x.body(0, n), 1);
                due("kind " + kind + " over a CALL that is not wanted", x.reaches(0, 1), 0);
                due("kind " + kind + " over one that is WRONG and not wanted", x.wrong(0), x.typeIn(0, n) == NONE ? n : NONE);
            }
        }
        x.body(0, x.call(2, 0, 1, 1));
        due("a CALL of 2, with TYPES 1", x.reaches(0, 1), 0);
        x.body(0, x.call(2, 0, NONE, NONE));
        due("a CALL of 2, where NODE 2 is WRONG", x.wrong(0), NONE);
    }

    private static void numbers() {
        for (int v : new int[] {MIN, -1, 0, 1, MAX}) {
            Asked x = program();
            int n = x.node(0, v, 3, 3, 3);
            due("NUMBER " + v, n, 4);
            x.body(0, n);
            due("run()", x.run(), 0);
            due("result(0)", x.result(0), v);
        }
    }

    private static void nodesTooDeep() {
        for (int kind = 3; kind <= 14; kind++) {
            for (int part = 0; part < PARTS[kind]; part++) {
                int asked = kind;
                int wanted = part;
                due("kind " + kind + ", part " + part + ", DEPTH 12", nodeWith(deepNodes(), kind, part, 10), 12);
                refused("kind " + kind + ", part " + part + ", DEPTH 13", BoundaryTests::deepNodes,
                    x -> nodeWith(x, asked, wanted, 11), NO);
            }
        }
    }

    private static void depthsOfNodes() {
        Asked x = deepNodes();
        due("DEPTH 1: NUMBER", x.node(0, 11, 11, 11, 11), 12);
        due("DEPTH 1: TRUTH", x.node(1, 1, 11, 11, 11), 13);
        due("DEPTH 1: ARGUMENT", x.node(2, 11, 11, 11, 11), 14);
        due("DEPTH 1: NIL", x.node(9, 11, 11, 11, 11), 15);
        due("DEPTH 2: a CALL of 11 with TYPES 11", x.node(14, 11, 0, 11, 11), 16);
        due("DEPTH 2: what is deep is not wanted", x.node(7, 0, 11, 11, 11), 17);
        due("DEPTH 2: what is deep is not wanted", x.node(10, 0, 0, 11, 11), 18);
        int deepest = x.on(7, 10);
        due("DEPTH 12", deepest, 19);
        due("DEPTH 13", x.on(7, deepest), NO);
        int n = 17;
        for (int depth = 3; depth <= 12; depth++) {
            n = depth % 2 == 0 ? x.choose(0, n, 0) : x.on(6, 0, n);
            due("DEPTH " + depth, n, 17 + depth);
        }
        due("DEPTH 13", x.on(6, 0, n), NO);
    }

    private static void nodesFull() {
        Asked x = manyNodes(1);
        due("count(1)", x.count(1), 199);
        due("the last", x.number(0), 199);
        due("count(1)", x.count(1), 200);
        due("no more", x.number(0), FULL);
        due("count(1)", x.count(1), 200);
        due("the last can be asked", x.typeIn(0, 199), 0);
        due("none behind it", x.typeIn(0, 200), BAD);
        for (int kind = 0; kind <= 14; kind++) {
            int asked = kind;
            refused("kind " + kind, BoundaryTests::allNodes, y -> y.node(asked, 0, 0, 0, 0), FULL);
        }
    }

    private static void nodesRefusedInOrder() {
        refused("NO ahead of FULL", BoundaryTests::allNodes, x -> x.on(7, 11), NO);
        refused("NO ahead of FULL", BoundaryTests::allNodes, x -> x.call(0, 11), NO);
        refused("BAD ahead of NO", BoundaryTests::deepNodes, x -> x.on(6, 11, 12), BAD);
        refused("BAD ahead of NO", BoundaryTests::deepNodes, x -> x.on(6, -1, 11), BAD);
        refused("BAD ahead of NO", BoundaryTests::deepNodes, x -> x.choose(11, 11, 12), BAD);
        refused("BAD ahead of NO", BoundaryTests::deepNodes, x -> x.call(12, 11), BAD);
        refused("BAD ahead of NO", BoundaryTests::deepNodes, x -> x.call(0, 11, 12, NONE), BAD);
        refused("BAD ahead of NO", BoundaryTests::deepNodes, x -> x.call(0, 11, 0, 12), BAD);
        refused("BAD ahead of NO", BoundaryTests::deepNodes, x -> x.call(0, 11, NONE, 0), BAD);
        refused("BAD ahead of FULL", BoundaryTests::allNodes, x -> x.truth(2), BAD);
        refused("BAD ahead of FULL", BoundaryTests::allNodes, x -> x.on(9, 12), BAD);
        refused("BAD ahead of FULL", BoundaryTests::allNodes, x -> x.node(15, 0, 0, 0, 0), BAD);
        refused("BAD ahead of FULL", BoundaryTests::allNodes, x -> x.on(3, 0, 200), BAD);
        refused("BAD ahead of NO and FULL", BoundaryTests::allNodes, x -> x.on(3, 11, 200), BAD);
    }

    // ---- promises 6 and 7

    private static Asked allFunctions() {
        Asked x = program();
        for (int f = 2; f < 12; f++) {
            due("a FUNCTION", x.function(0, 0, 0), f);
        }
        return x;
    }

    /** 4 LIST of A, 5 LIST of B, 6 (A, B), 7 (INT, LIST of B). */
    private static Asked letterTypes() {
        Asked x = new Asked();
        x.list(2);
        x.list(3);
        x.pair(2, 3);
        x.pair(0, 5);
        return x;
    }

    private static void functions() {
        sentence("6", "LETTERS (0 .. 2)", BoundaryTests::badLetters);
        sentence("6", "an argument's and a result's TYPE: BAD", BoundaryTests::badFunctionTypes);
        sentence("6", "BAD: also a LETTER that it has not", BoundaryTests::lettersItHasNot);
        sentence("6", "FULL: 12", BoundaryTests::functionsFull);
        sentence("6", "refused, the first of BAD, FULL", BoundaryTests::functionsRefusedInOrder);
        sentence("6", "without a BODY", BoundaryTests::functionsWithoutBodies);
        sentence("7", "BAD: a FUNCTION", BoundaryTests::badFunctionsForBodies);
        sentence("7", "BAD: a NODE", BoundaryTests::badNodesForBodies);
        sentence("7", "becomes a NODE: 1", BoundaryTests::bodiesBecome);
    }

    private static void badLetters() {
        Asked x = program();
        for (int letters = 0; letters <= 2; letters++) {
            due("LETTERS " + letters, x.function(letters, 0, 0), 2 + letters);
        }
        for (int v : outside(3)) {
            refused("LETTERS " + v, BoundaryTests::program, y -> y.function(v, 0, 0), BAD);
        }
    }

    private static void badFunctionTypes() {
        Asked x = program();
        due("the last TYPE", x.function(1, 4, 0), 2);
        due("the last TYPE", x.function(1, 0, 4), 3);
        for (int v : outside(5)) {
            refused("argument " + v, BoundaryTests::program, y -> y.function(2, v, 0), BAD);
            refused("result " + v, BoundaryTests::program, y -> y.function(2, 0, v), BAD);
            refused("both " + v, BoundaryTests::program, y -> y.function(2, v, v), BAD);
        }
    }

    private static void lettersItHasNot() {
        for (int t = 0; t <= 7; t++) {
            int has = new int[] {0, 0, 1, 2, 1, 2, 3, 2}[t];
            for (int letters = 0; letters <= 2; letters++) {
                int asked = t;
                int count = letters;
                boolean stands = letters == 2 || has <= letters;
                String name = "LETTERS " + letters + ", TYPE " + t;
                if (stands) {
                    due(name + " as argument", letterTypes().function(letters, t, 0), 0);
                    due(name + " as result", letterTypes().function(letters, 1, t), 0);
                } else {
                    refused(name + " as argument", BoundaryTests::letterTypes, x -> x.function(count, asked, 0), BAD);
                    refused(name + " as result", BoundaryTests::letterTypes, x -> x.function(count, 1, asked), BAD);
                }
            }
        }
    }

    private static void functionsFull() {
        Asked x = allFunctions();
        due("count(2)", x.count(2), 12);
        due("no more", x.function(0, 0, 0), FULL);
        due("count(2)", x.count(2), 12);
        due("the last can have a BODY", x.body(11, 0), 1);
        due("none behind it", x.body(12, 0), BAD);
        refused("a 13th", BoundaryTests::allFunctions, y -> y.function(0, 0, 0), FULL);
        refused("a 13th with LETTERS", BoundaryTests::allFunctions, y -> y.function(2, 2, 3), FULL);
    }

    private static void functionsRefusedInOrder() {
        refused("BAD ahead of FULL", BoundaryTests::allFunctions, x -> x.function(3, 0, 0), BAD);
        refused("BAD ahead of FULL", BoundaryTests::allFunctions, x -> x.function(0, 5, 0), BAD);
        refused("BAD ahead of FULL", BoundaryTests::allFunctions, x -> x.function(0, 0, -1), BAD);
        refused("BAD ahead of FULL", BoundaryTests::allFunctions, x -> x.function(0, 2, 0), BAD);
        refused("BAD ahead of FULL", BoundaryTests::allFunctions, x -> x.function(1, 0, 3), BAD);
    }

    private static void functionsWithoutBodies() {
        Asked x = new Asked();
        x.function(0, 0, 0);
        due("wrong(0)", x.wrong(0), NO);
        due("judge()", x.judge(), 2);
        due("reaches(0, 0)", x.reaches(0, 0), 0);
        x.number(1);
        due("wrong(0), with a NODE that is not its BODY", x.wrong(0), NO);
    }

    /** As program(), but FUNCTION 1 has no BODY. */
    private static Asked lackingBody() {
        Asked x = new Asked();
        x.function(0, 0, 0);
        x.function(1, 2, 2);
        x.argument();
        x.body(0, x.call(1, 0, 0, NONE));
        return x;
    }

    private static void badFunctionsForBodies() {
        for (int v : outside(2)) {
            refused("body(" + v + ", 0)", BoundaryTests::program, x -> x.body(v, 0), BAD);
            refused("body(" + v + ", 0)", BoundaryTests::lackingBody, x -> x.body(v, 0), BAD);
            refused("body(" + v + ", " + v + ")", BoundaryTests::lackingBody, x -> x.body(v, v), BAD);
        }
    }

    private static void badNodesForBodies() {
        for (int v : outside(4)) {
            refused("body(0, " + v + ")", BoundaryTests::program, x -> x.body(0, v), BAD);
            refused("body(1, " + v + ")", BoundaryTests::program, x -> x.body(1, v), BAD);
        }
        for (int v : outside(2)) {
            refused("body(1, " + v + ")", BoundaryTests::lackingBody, x -> x.body(1, v), BAD);
        }
    }

    private static void bodiesBecome() {
        Asked x = lackingBody();
        due("first", x.body(1, 0), 1);
        due("judge()", x.judge(), 0);
        due("the same once more", x.body(1, 0), 1);
        due("judge()", x.judge(), 0);
        int wrongOne = x.on(7, x.number(1));
        due("one that is WRONG", x.body(1, wrongOne), 1);
        due("wrong(1)", x.wrong(1), wrongOne);
        due("judge()", x.judge(), 3);
        due("and back", x.body(1, 0), 1);
        due("wrong(1)", x.wrong(1), NONE);
        due("judge()", x.judge(), 0);
        due("the last NODE", x.body(0, x.number(6)), 1);
        due("result of it", x.run() + x.result(0), 6);
    }

    // ---- promise 8, and the TYPES of NODES in the terms

    private static void typesInFunctions() {
        sentence("8", "BAD", BoundaryTests::badTypeIn);
        sentence("8", "where the parts are so (else they are WRONG)", BoundaryTests::partsThatAreSo);
        sentence("8", "IF a b c: a TRUTH, b and c alike", BoundaryTests::partsOfIf);
        sentence("8", "NIL: LIST of t (a TYPE with no other LETTERS)", BoundaryTests::nilsOfLetters);
        sentence("8", "where a TYPE would be deeper than 5, they are WRONG", BoundaryTests::typesTooDeep);
        sentence("8", "told by its number if it has one, else as -5", BoundaryTests::unnumbered);
        sentence("8", "CALL: f is there", BoundaryTests::callsOfNone);
        sentence("8", "CALL: has as many LETTERS as there are of these", BoundaryTests::callsByLetters);
        sentence("8", "CALL: TYPES which have no other LETTERS than the FUNCTION", BoundaryTests::callsWithOtherLetters);
        sentence("8", "CALL: a is f's argument's TYPE, with t for A, u for B (at once)", BoundaryTests::callsArguments);
        sentence("8", "CALL: f's result's, likewise", BoundaryTests::callsResults);
    }

    private static void badTypeIn() {
        Asked x = program();
        due("the last of both", x.typeIn(1, 3), NONE);
        due("the first of both", x.typeIn(0, 0), 0);
        for (int v : outside(2)) {
            refused("typeIn(" + v + ", 0)", BoundaryTests::program, y -> y.typeIn(v, 0), BAD);
        }
        for (int v : outside(4)) {
            refused("typeIn(0, " + v + ")", BoundaryTests::program, y -> y.typeIn(0, v), BAD);
            refused("typeIn(2, " + v + ")", BoundaryTests::program, y -> y.typeIn(2, v), BAD);
        }
    }

    /**
     * FUNCTION 0 with LETTERS A, B, from (A, LIST of A) to INT. NODES: 0 INT, 1 TRUTH, 2 the argument, 3 A,
     * 4 LIST of A, 5 LIST of INT, 6 WRONG. TYPES: 4 LIST of A, 5 (A, LIST of A), 6 LIST of INT.
     */
    private static Asked basis() {
        Asked x = new Asked();
        x.list(2);
        x.pair(2, 4);
        x.list(0);
        x.function(2, 5, 0);
        x.number(3);
        x.truth(1);
        x.argument();
        x.on(7, 2);
        x.on(8, 2);
        x.on(9, 0);
        x.on(3, 0, 1);
        return x;
    }

    private static final int[] BASIS = {0, 1, 5, 2, 4, 6, NONE};

    /** What a NODE of a kind with parts of the basis is, as the terms say it in a row for each kind. */
    private static int typeOver(int kind, int a, int b) {
        switch (kind) {
            case 3:
                return a == 0 && b == 0 ? 0 : NONE;
            case 4:
                return a == 0 && b == 0 ? 1 : NONE;
            case 6:
                return a == 6 || b == 6 ? NONE : a == 3 && b == 4 ? 5 : UNNUMBERED;
            case 7:
                return a == 2 ? 2 : NONE;
            case 8:
                return a == 2 ? 4 : NONE;
            case 10:
                return a == 3 && b == 4 ? 4 : a == 0 && b == 5 ? 6 : NONE;
            case 11:
                return a == 4 || a == 5 ? 1 : NONE;
            case 12:
                return a == 4 ? 2 : a == 5 ? 0 : NONE;
            default:
                return a == 4 ? 4 : a == 5 ? 6 : NONE;
        }
    }

    private static void partsThatAreSo() {
        Asked basis = basis();
        for (int n = 0; n < BASIS.length; n++) {
            due("basis " + n, basis.typeIn(0, n), BASIS[n]);
        }
        for (int kind : new int[] {3, 4, 6, 7, 8, 10, 11, 12, 13}) {
            Asked x = basis();
            for (int a = 0; a < BASIS.length; a++) {
                for (int b = 0; b < (PARTS[kind] > 1 ? BASIS.length : 1); b++) {
                    due("kind " + kind + " of " + a + ", " + b, x.typeIn(0, x.on(kind, a, b)), typeOver(kind, a, b));
                }
            }
        }
    }

    private static void partsOfIf() {
        for (int a = 0; a < BASIS.length; a++) {
            Asked x = basis();
            for (int b = 0; b < BASIS.length; b++) {
                for (int c = 0; c < BASIS.length; c++) {
                    int want = a == 1 && b == c ? BASIS[b] : NONE;
                    due("IF of " + a + ", " + b + ", " + c, x.typeIn(0, x.choose(a, b, c)), want);
                }
            }
        }
        Asked x = basis();
        int like = x.on(6, 3, 4);
        due("alike, and not the same NODES", x.typeIn(0, x.choose(1, 2, like)), 5);
        int pair = x.on(6, 0, 0);
        due("alike without a number", x.typeIn(0, x.choose(1, pair, x.on(6, 0, 0))), UNNUMBERED);
        due("not alike, both without a number", x.typeIn(0, x.choose(1, pair, x.on(6, 0, 1))), NONE);
    }

    private static void nilsOfLetters() {
        Asked x = letterTypes();
        for (int letters = 0; letters <= 2; letters++) {
            x.function(letters, 0, 0);
        }
        int[] has = {0, 0, 1, 2, 1, 2, 3, 2};
        for (int t = 0; t < has.length; t++) {
            int n = x.on(9, t);
            for (int f = 0; f <= 2; f++) {
                due("NIL of " + t + " with LETTERS " + f, x.typeIn(f, n) == NONE ? 0 : 1, f == 2 || has[t] <= f ? 1 : 0);
            }
        }
    }

    /** TYPES 4 .. 7 LISTS of DEPTH 2 .. 5; FUNCTIONS 0, 1 from those of DEPTH 4 and 5. NODES 0 its argument, 1 INT. */
    private static Asked deepArguments() {
        Asked x = lists();
        x.function(0, 6, 0);
        x.function(0, 7, 0);
        x.argument();
        x.number(1);
        return x;
    }

    private static void typesTooDeep() {
        Asked x = deepArguments();
        int left = x.on(6, 0, 1);
        int right = x.on(6, 1, 0);
        int both = x.on(6, 0, 0);
        for (int n : new int[] {left, right, both}) {
            due("PAIR of DEPTH 5", x.typeIn(0, n), UNNUMBERED);
            due("PAIR of DEPTH 6", x.typeIn(1, n), NONE);
            due("FIRST of what is WRONG so", x.typeIn(1, x.on(7, n)), NONE);
        }
        due("NIL of DEPTH 5", x.typeIn(0, x.on(9, 6)), 7);
        due("NIL of DEPTH 6", x.typeIn(0, x.on(9, 7)), NONE);
        due("LINK of DEPTH 5", x.typeIn(0, x.on(10, 0, x.on(9, 6))), 7);
        due("LINK to what would be of DEPTH 6", x.typeIn(1, x.on(10, 0, x.on(9, 7))), NONE);
        due("TAIL of DEPTH 5", x.typeIn(1, x.on(13, 0)), 7);
        due("HEAD of DEPTH 5", x.typeIn(1, x.on(12, 0)), 6);
        due("EMPTY of DEPTH 5", x.typeIn(1, x.on(11, 0)), 1);
    }

    private static void unnumbered() {
        Asked x = program();
        int pair = x.on(6, 0, 1);
        due("PAIR without a number, in 0", x.typeIn(0, pair), UNNUMBERED);
        due("PAIR without a number, in 1", x.typeIn(1, pair), UNNUMBERED);
        int whole = x.on(6, pair, pair);
        due("of parts without a number", x.typeIn(0, whole), UNNUMBERED);
        due("numbered now", x.pair(0, 0), 5);
        due("in 0 it has one", x.typeIn(0, pair), 5);
        due("in 1 it has none", x.typeIn(1, pair), UNNUMBERED);
        due("of parts with a number", x.typeIn(0, whole), UNNUMBERED);
        due("its part has one", x.typeIn(0, x.on(7, whole)), 5);
        due("numbered now", x.pair(5, 5), 6);
        due("has one", x.typeIn(0, whole), 6);
        due("numbered now", x.pair(2, 0), 7);
        due("in 1 it has one", x.typeIn(1, pair), 7);
    }

    private static void callsOfNone() {
        Asked x = new Asked();
        x.function(0, 0, 0);
        int n = x.number(1);
        int last = x.call(11, n);
        int over = x.on(3, last, last);
        due("CALL of 1, which is not there", x.typeIn(0, x.call(1, n)), NONE);
        for (int f = 1; f <= 11; f++) {
            due("CALL of 11 with FUNCTIONS up to " + (f - 1), x.typeIn(0, last), NONE);
            due("over it", x.typeIn(0, over), NONE);
            x.function(0, 0, 0);
        }
        due("CALL of 11, which is there", x.typeIn(0, last), 0);
        due("over it", x.typeIn(0, over), 0);
    }

    private static void callsByLetters() {
        Asked x = new Asked();
        for (int letters = 0; letters <= 2; letters++) {
            x.function(letters, 0, 0);
        }
        int n = x.number(1);
        for (int g = 0; g <= 2; g++) {
            due("no TYPES for LETTERS " + g, x.typeIn(0, x.call(g, n, NONE, NONE)), g == 0 ? 0 : NONE);
            due("one TYPE for LETTERS " + g, x.typeIn(0, x.call(g, n, 1, NONE)), g == 1 ? 0 : NONE);
            due("two TYPES for LETTERS " + g, x.typeIn(0, x.call(g, n, 1, 0)), g == 2 ? 0 : NONE);
        }
    }

    private static void callsWithOtherLetters() {
        Asked x = letterTypes();
        for (int letters = 0; letters <= 2; letters++) {
            x.function(letters, 0, 0);
        }
        int n = x.number(1);
        int[] has = {0, 0, 1, 2, 1, 2, 3, 2};
        for (int t = 0; t < has.length; t++) {
            int alone = x.call(1, n, t, NONE);
            int first = x.call(2, n, t, 0);
            int second = x.call(2, n, 0, t);
            for (int f = 0; f <= 2; f++) {
                int want = f == 2 || has[t] <= f ? 0 : NONE;
                due("TYPE " + t + " alone, in " + f, x.typeIn(f, alone), want);
                due("TYPE " + t + " first, in " + f, x.typeIn(f, first), want);
                due("TYPE " + t + " second, in " + f, x.typeIn(f, second), want);
            }
        }
    }

    private static void callsArguments() {
        Asked x = letterTypes();
        int pairBA = x.pair(3, 2);
        x.function(2, 6, 6);
        x.function(0, 0, 0);
        int n = x.number(1);
        int t = x.truth(1);
        int nt = x.on(6, n, t);
        due("as told", x.typeIn(1, x.call(0, nt, 0, 1)), UNNUMBERED);
        due("the other way round", x.typeIn(1, x.call(0, nt, 1, 0)), NONE);
        due("one of them", x.typeIn(1, x.call(0, nt, 0, 0)), NONE);
        due("no PAIR", x.typeIn(1, x.call(0, n, 0, 1)), NONE);
        due("one that is WRONG", x.typeIn(1, x.call(0, x.on(7, n), 0, 1)), NONE);
        int a = x.argument();
        int swapped = x.on(6, x.on(8, a), x.on(7, a));
        due("B for A and A for B at once", x.typeIn(0, x.call(0, swapped, 3, 2)), pairBA);
        due("A for A, B for B", x.typeIn(0, x.call(0, a, 2, 3)), 6);
        due("B for A alone", x.typeIn(0, x.call(0, swapped, 3, 3)), NONE);
        Asked y = lists();
        y.function(1, y.list(2), 0);
        y.function(0, 7, 0);
        int b = y.argument();
        due("DEPTH 5", y.typeIn(1, y.call(0, b, 6, NONE)), 0);
        due("an argument's TYPE of DEPTH 6 has no NODE", y.typeIn(1, y.call(0, b, 7, NONE)), NONE);
        due("nor one that is WRONG", y.typeIn(1, y.call(0, y.on(9, 7), 7, NONE)), NONE);
    }

    private static void callsResults() {
        Asked x = lists();
        int listA = x.list(2);
        x.function(1, 0, listA);
        x.function(2, 0, x.pair(3, 2));
        x.function(0, 0, 0);
        int n = x.number(1);
        due("LIST of INT", x.typeIn(2, x.call(0, n, 0, NONE)), 4);
        due("DEPTH 5", x.typeIn(2, x.call(0, n, 6, NONE)), 7);
        due("DEPTH 6", x.typeIn(2, x.call(0, n, 7, NONE)), NONE);
        int swapped = x.pair(1, 0);
        due("(B, A) with INT for A, TRUTH for B", x.typeIn(2, x.call(1, n, 0, 1)), swapped);
        due("(B, A) of DEPTH 5", x.typeIn(2, x.call(1, n, 6, 0)), UNNUMBERED);
        due("(B, A) of DEPTH 6 by A", x.typeIn(2, x.call(1, n, 7, 0)), NONE);
        due("(B, A) of DEPTH 6 by B", x.typeIn(2, x.call(1, n, 0, 7)), NONE);
        x.function(2, 0, 0);
        due("TYPES of DEPTH 5 for LETTERS that are in none", x.typeIn(2, x.call(3, n, 7, 7)), 0);
    }

    // ---- promise 9

    private static void wrongNodes() {
        sentence("9", "BAD", BoundaryTests::badWrong);
        sentence("9", "NO: it has no BODY", BoundaryTests::wrongWithoutBody);
        sentence("9", "NONE: there is none", BoundaryTests::noneWrong);
        sentence("9", "the least NODE that is WRONG while its parts are not", BoundaryTests::leastWrong);
        sentence("9", "of a FUNCTION's BODY", BoundaryTests::wrongOutsideBody);
    }

    private static void badWrong() {
        for (int v : outside(2)) {
            refused("wrong(" + v + ")", BoundaryTests::program, x -> x.wrong(v), BAD);
        }
    }

    private static void wrongWithoutBody() {
        refused("wrong(1)", BoundaryTests::lackingBody, x -> x.wrong(1), NO);
        refused("BAD ahead of NO", BoundaryTests::lackingBody, x -> x.wrong(2), BAD);
        Asked x = lackingBody();
        due("the other one has a BODY", x.wrong(0), NONE);
    }

    private static void noneWrong() {
        Asked x = program();
        due("wrong(0)", x.wrong(0), NONE);
        due("wrong(1)", x.wrong(1), NONE);
        int t = x.truth(1);
        x.body(0, t);
        due("a BODY of another TYPE than the result's", x.wrong(0), NONE);
        due("judge()", x.judge(), 3);
    }

    private static void leastWrong() {
        Asked x = program();
        int zero = x.on(7, 0);
        int over = x.on(7, zero);
        int later = x.on(8, 0);
        x.body(0, over);
        due("its part is the least", x.wrong(0), zero);
        x.body(0, x.on(3, over, later));
        due("of two, the least", x.wrong(0), zero);
        x.body(0, x.on(3, later, over));
        due("of two, the least, from the right", x.wrong(0), zero);
        x.body(0, x.on(3, later, 1));
        due("later alone", x.wrong(0), later);
        Asked y = new Asked();
        y.on(9, 2);
        y.function(0, 0, 0);
        y.body(0, 0);
        due("NODE 0", y.wrong(0), 0);
    }

    private static void wrongOutsideBody() {
        Asked x = program();
        int outside = x.on(7, 1);
        due("no NODE of its", x.wrong(0), NONE);
        int a = x.on(7, 0);
        x.body(1, a);
        due("of another one's BODY", x.wrong(0), NONE);
        due("that of 1", x.wrong(1), a);
        due("the one outside is WRONG", x.typeIn(0, outside), NONE);
        Asked y = new Asked();
        y.function(0, 0, 0);
        int n = y.number(1);
        int at = y.on(3, n, n);
        int deep = y.on(7, n);
        for (int depth = 3; depth <= 12; depth++) {
            at = y.on(3, at, n);
            deep = y.on(3, deep, n);
        }
        y.body(0, at);
        due("a deep BODY with none", y.wrong(0), NONE);
        y.body(0, deep);
        due("at DEPTH 2 of 12", y.wrong(0), 2);
        int nil = y.on(9, 2);
        int leaf = y.on(11, nil);
        for (int depth = 3; depth <= 12; depth++) {
            leaf = y.choose(leaf, n, n);
        }
        y.body(0, leaf);
        due("eleven NODES above it", y.wrong(0), nil);
    }

    // ---- promise 10

    private static void reaching() {
        sentence("10", "BAD", BoundaryTests::badReaches);
        sentence("10", "1, 0", BoundaryTests::reachesOrNot);
        sentence("10", "USES: in its BODY, at whatever depth", BoundaryTests::usesDeep);
        sentence("10", "REACHES what it USES, and what these REACH", BoundaryTests::reachesFar);
    }

    private static void badReaches() {
        for (int v : outside(2)) {
            refused("reaches(" + v + ", 0)", BoundaryTests::program, x -> x.reaches(v, 0), BAD);
            refused("reaches(0, " + v + ")", BoundaryTests::program, x -> x.reaches(0, v), BAD);
            refused("reaches(" + v + ", " + v + ")", BoundaryTests::program, x -> x.reaches(v, v), BAD);
        }
        Asked x = program();
        x.body(0, x.call(11, 0));
        due("one that is used and not there", x.reaches(0, 11), BAD);
        due("11 judged", x.judge(), 2);
    }

    private static void reachesOrNot() {
        Asked x = program();
        due("reaches(0, 1)", x.reaches(0, 1), 1);
        due("reaches(1, 0)", x.reaches(1, 0), 0);
        due("itself, by no CALL", x.reaches(0, 0), 0);
        x.body(0, 0);
        due("no more", x.reaches(0, 1), 0);
        x.body(0, x.call(0, 0));
        due("itself, by a CALL", x.reaches(0, 0), 1);
        x.body(1, x.call(0, 0, 0, 0));
        due("by a CALL that is WRONG", x.reaches(1, 0), 1);
    }

    private static void usesDeep() {
        Asked x = new Asked();
        x.function(0, 0, 0);
        x.function(0, 0, 0);
        int n = x.number(1);
        int call = x.call(1, n);
        int at = call;
        for (int depth = 3; depth <= 12; depth++) {
            at = depth % 3 == 0 ? x.on(3, n, at) : depth % 3 == 1 ? x.choose(n, n, at) : x.call(0, at);
        }
        x.body(0, at);
        due("at DEPTH 11 under a BODY", x.reaches(0, 1), 1);
        for (int kind = 3; kind <= 14; kind++) {
            for (int part = 0; part < PARTS[kind]; part++) {
                x.body(0, kind == 14 ? x.call(0, call) : nodeOver(x, kind, part, call, n));
                due("under kind " + kind + ", part " + part, x.reaches(0, 1), 1);
            }
        }
        x.body(0, x.node(7, n, call, call, call));
        due("under what is not wanted", x.reaches(0, 1), 0);
    }

    private static int nodeOver(Asked x, int kind, int part, int at, int other) {
        return x.node(kind, part == 0 ? at : other, part == 1 ? at : other, part == 2 ? at : other, 0);
    }

    private static void reachesFar() {
        Asked x = new Asked();
        for (int f = 0; f < 12; f++) {
            x.function(0, 0, 0);
        }
        int n = x.number(1);
        for (int f = 0; f < 11; f++) {
            x.body(f, x.call(f + 1, n));
        }
        due("over ten others", x.reaches(0, 11), 1);
        due("not back", x.reaches(11, 0), 0);
        x.body(11, x.call(0, n));
        due("round", x.reaches(11, 10), 1);
        due("itself, round", x.reaches(5, 5), 1);
        x.body(6, n);
        due("cut", x.reaches(0, 7), 0);
        due("up to the cut", x.reaches(0, 6), 1);
        due("from behind it", x.reaches(7, 6), 1);
        Asked y = new Asked();
        for (int f = 0; f < 12; f++) {
            y.function(0, 0, 0);
        }
        int m = y.number(1);
        for (int f = 11; f > 1; f--) {
            y.body(f, y.call(f - 1, m));
        }
        y.body(0, y.call(11, m));
        due("over ten others, downward", y.reaches(0, 1), 1);
    }

    // ---- promise 11

    private static void judging() {
        sentence("11", "1 no FUNCTION 0", BoundaryTests::judgedWithoutFunction);
        sentence("11", "1 or it has LETTERS", BoundaryTests::judgedWithLetters);
        sentence("11", "2 one that is REACHED is not there", BoundaryTests::judgedNotThere);
        sentence("11", "2 or has no BODY", BoundaryTests::judgedWithoutBody);
        sentence("11", "3 one is not RIGHT", BoundaryTests::judgedNotRight);
        sentence("11", "4 it is not REGULAR: f's LETTERS in order as its TYPES", BoundaryTests::judgedByOrder);
        sentence("11", "4 it is not REGULAR: f having no fewer", BoundaryTests::judgedByFewer);
        sentence("11", "4 it is not REGULAR: FUNCTION 0 having none", BoundaryTests::judgedAtFunction0);
        sentence("11", "4 it is not REGULAR: where g REACHES f (or is it)", BoundaryTests::judgedByReaching);
        sentence("11", "each looked at for all before the next", BoundaryTests::judgedInOrder);
    }

    private static void judgedWithoutFunction() {
        Asked x = new Asked();
        due("new", x.judge(), 1);
        x.number(1);
        due("with a NODE", x.judge(), 1);
        due("refused function", x.function(0, 9, 0), BAD);
        due("still none", x.judge(), 1);
    }

    private static void judgedWithLetters() {
        for (int letters = 0; letters <= 2; letters++) {
            Asked x = new Asked();
            x.function(letters, 0, 0);
            due("without a BODY, LETTERS " + letters, x.judge(), letters == 0 ? 2 : 1);
            x.body(0, x.argument());
            due("LETTERS " + letters, x.judge(), letters == 0 ? 0 : 1);
            x.body(0, x.truth(1));
            due("not RIGHT, LETTERS " + letters, x.judge(), letters == 0 ? 3 : 1);
        }
    }

    private static void judgedNotThere() {
        Asked x = new Asked();
        x.function(0, 0, 0);
        int n = x.number(1);
        x.body(0, x.call(1, n));
        due("1 is not there", x.judge(), 2);
        x.function(0, 0, 0);
        x.body(1, x.call(11, n));
        due("11, which 1 USES, is not there", x.judge(), 2);
        x.body(0, n);
        due("1 is not REACHED", x.judge(), 0);
        for (int f = 2; f <= 11; f++) {
            x.function(0, 0, 0);
        }
        x.body(11, n);
        x.body(0, x.call(1, n));
        due("11 is there", x.judge(), 0);
    }

    private static void judgedWithoutBody() {
        Asked x = new Asked();
        x.function(0, 0, 0);
        due("0 has none", x.judge(), 2);
        int n = x.number(1);
        x.function(0, 0, 0);
        x.body(0, x.call(1, n));
        due("1 has none", x.judge(), 2);
        x.body(1, n);
        due("1 has one", x.judge(), 0);
        x.function(0, 0, 0);
        due("2 has none, and is not REACHED", x.judge(), 0);
        x.body(1, x.call(2, n));
        due("2 has none", x.judge(), 2);
    }

    private static void judgedNotRight() {
        Asked x = program();
        due("RIGHT", x.judge(), 0);
        int t = x.truth(0);
        x.body(0, t);
        due("0 is not: another TYPE", x.judge(), 3);
        x.body(0, x.on(7, 1));
        due("0 is not: WRONG", x.judge(), 3);
        x.body(0, 3);
        x.body(1, 1);
        due("1 is not", x.judge(), 3);
        x.body(0, 1);
        due("1 is not REACHED", x.judge(), 0);
        x.body(0, 0);
        due("the argument", x.judge(), 0);
    }

    /** FUNCTION 0, and others of INT with so many LETTERS; NODE 0 the argument; 0 calls 1 with INT, TRUTH. */
    private static Asked calling(int... letters) {
        Asked x = new Asked();
        x.list(2);
        x.function(0, 0, 0);
        int a = x.argument();
        for (int i = 0; i < letters.length; i++) {
            x.function(letters[i], 0, 0);
            x.body(i + 1, a);
        }
        x.body(0, callAt(x, 1, letters[0], 0, 1));
        due("right", x.judge(), 0);
        return x;
    }

    private static int callAt(Asked x, int g, int letters, int t, int u) {
        return x.call(g, 0, letters > 0 ? t : NONE, letters > 1 ? u : NONE);
    }

    private static void judgedByOrder() {
        for (int t = 0; t <= 4; t++) {
            Asked x = calling(1);
            x.body(1, t == 3 ? x.call(1, 0, 1, NONE) : x.call(1, 0, t, NONE));
            due("one LETTER, itself with " + t, x.judge(), t == 2 ? 0 : 4);
        }
        for (int t = 0; t <= 4; t++) {
            for (int u = 0; u <= 4; u++) {
                Asked x = calling(2);
                x.body(1, x.call(1, 0, t, u));
                due("two LETTERS, itself with " + t + ", " + u, x.judge(), t == 2 && u == 3 ? 0 : 4);
            }
        }
        Asked x = calling(0);
        x.body(1, x.call(1, 0));
        due("no LETTER, itself", x.judge(), 0);
    }

    private static void judgedByFewer() {
        for (int f = 0; f <= 2; f++) {
            for (int g = 0; g <= 2; g++) {
                Asked x = calling(f, g);
                x.body(1, callAt(x, 2, g, f > 0 ? 2 : 0, f > 1 ? 3 : 0));
                due("LETTERS " + f + " calls " + g, x.judge(), 0);
                x.body(2, callAt(x, 1, f, g > 0 ? 2 : 0, g > 1 ? 3 : 0));
                due("LETTERS " + f + " calls " + g + ", and back", x.judge(), f == g ? 0 : 4);
            }
        }
    }

    private static void judgedAtFunction0() {
        for (int letters = 0; letters <= 2; letters++) {
            Asked x = calling(letters);
            int call = x.count(1) - 1;
            x.body(1, x.call(0, 0));
            due("0 calls LETTERS " + letters + ", which calls 0", x.judge(), letters == 0 ? 0 : 4);
            x.body(0, x.on(3, 0, x.on(3, call, 0)));
            due("the same, deep", x.judge(), letters == 0 ? 0 : 4);
            x.body(0, x.call(0, 0));
            due("0 calls itself alone", x.judge(), 0);
        }
    }

    private static void judgedByReaching() {
        Asked x = calling(1, 1, 1, 1);
        int handOn = 2;
        x.body(1, x.call(2, 0, handOn, NONE));
        x.body(2, x.call(3, 0, handOn, NONE));
        x.body(3, x.call(4, 0, 0, NONE));
        due("INT where it does not come back", x.judge(), 0);
        x.body(4, x.call(1, 0, handOn, NONE));
        due("INT where it comes back over others", x.judge(), 4);
        x.body(3, x.call(4, 0, handOn, NONE));
        due("A all the way round", x.judge(), 0);
        x.body(4, x.call(1, 0, 4, NONE));
        due("LIST of A on the way round", x.judge(), 4);
        x.body(4, x.call(4, 0, 2, NONE));
        x.body(3, x.call(4, 0, 4, NONE));
        due("LIST of A to one that comes back to itself alone", x.judge(), 0);
        x.body(0, 0);
        x.body(4, x.call(4, 0, 0, NONE));
        due("not REGULAR, and not REACHED", x.judge(), 0);
    }

    private static void judgedInOrder() {
        Asked x = new Asked();
        x.function(0, 0, 0);
        int a = x.argument();
        int t = x.truth(1);
        x.function(1, 0, 0);
        x.function(0, 0, 0);
        x.body(1, x.call(1, a, 0, NONE));
        x.body(0, x.on(3, x.call(1, a, 0, NONE), x.on(3, x.call(2, a), t)));
        due("2 has no BODY, 0 is not RIGHT, 1 is not REGULAR", x.judge(), 2);
        x.body(2, t);
        due("0 and 2 are not RIGHT, 1 is not REGULAR", x.judge(), 3);
        x.body(0, x.on(3, x.call(1, a, 0, NONE), x.call(2, a)));
        due("2 is not RIGHT, 1 is not REGULAR", x.judge(), 3);
        x.body(2, a);
        due("1 is not REGULAR", x.judge(), 4);
        x.body(1, a);
        due("all is RIGHT", x.judge(), 0);
        x.body(2, x.call(9, a));
        x.body(1, t);
        due("9 is not there, 1 is not RIGHT", x.judge(), 2);
    }

    // ---- promise 12

    /** FUNCTION 0 with so many CALLS of FUNCTION 1, which has two LETTERS, no two at like TYPES. */
    private static Asked manyCopies(int calls, int again) {
        Asked x = new Asked();
        for (int t = 0; t < 2; t++) {
            x.list(t);
            x.pair(t, 0);
            x.pair(t, 1);
        }
        int[] types = {0, 1, 4, 5, 6, 7, 8, 9};
        x.function(0, 0, 0);
        x.function(2, 0, 0);
        int a = x.argument();
        x.body(1, a);
        int[] row = new int[calls + again];
        for (int i = 0; i < row.length; i++) {
            int at = i < calls ? i : i - calls;
            row[i] = x.call(1, a, types[at / 8], types[at % 8]);
        }
        x.body(0, sum(x, row));
        return x;
    }

    private static int sum(Asked x, int... row) {
        int[] rest = row.clone();
        int size = rest.length;
        while (size > 1) {
            int half = 0;
            for (int i = 0; i < size; i += 2) {
                rest[half] = i + 1 < size ? x.on(3, rest[i], rest[i + 1]) : rest[i];
                half++;
            }
            size = half;
        }
        return rest[0];
    }

    /** FUNCTION 0 calls FUNCTION 1 (A, with a BODY to come) at a TYPE of DEPTH 4 or 5. TYPE 8 LIST of A. */
    private static Asked atDepth(int depth) {
        Asked x = lists();
        x.list(2);
        x.function(0, 0, 0);
        x.function(1, 0, 0);
        int a = x.argument();
        x.body(0, x.call(1, a, depth + 2, NONE));
        x.body(1, a);
        due("copies of it alone", x.copies(), 2);
        return x;
    }

    private static void copying() {
        sentence("12", "NO: THE PROGRAM is not RIGHT", BoundaryTests::copiesOfNone);
        sentence("12", "FULL: there would be more than 60", BoundaryTests::copiesFull);
        sentence("12", "FULL: a deeper TYPE of a NODE", BoundaryTests::deeperNodes);
        sentence("12", "FULL: a deeper TYPE of an argument, a result", BoundaryTests::deeperCalls);
        sentence("12", "FULL: a deeper TYPE for a LETTER", BoundaryTests::deeperLetters);
        sentence("12", "number 0 is FUNCTION 0", BoundaryTests::oneCopy);
        sentence("12", "a NODE's parts from left to right, then itself", BoundaryTests::copiesLeftToRight);
        sentence("12", "each NODE once; if they are none yet", BoundaryTests::copiesOnce);
        sentence("12", "for each COPY, in order", BoundaryTests::copiesInOrder);
        sentence("12", "refused, the first of NO, FULL", BoundaryTests::copiesRefusedInOrder);
    }

    private static void copiesOfNone() {
        refused("new", Asked::new, Asked::copies, NO);
        refused("2", BoundaryTests::lackingBody, Asked::copies, NO);
        refused("3", BoundaryTests::notRight, Asked::copies, NO);
        refused("4", BoundaryTests::notRegular, Asked::copies, NO);
    }

    private static Asked notRight() {
        Asked x = program();
        x.body(0, x.truth(1));
        return x;
    }

    private static Asked notRegular() {
        Asked x = program();
        x.body(1, x.call(1, 0, 2, NONE));
        due("RIGHT", x.judge(), 0);
        x.function(1, 0, 0);
        x.body(2, x.call(2, 0, 0, NONE));
        x.body(0, x.call(2, 0, 0, NONE));
        due("not REGULAR", x.judge(), 4);
        return x;
    }

    private static void copiesFull() {
        due("59", manyCopies(58, 0).copies(), 59);
        due("60", manyCopies(59, 0).copies(), 60);
        due("60, with like ones", manyCopies(59, 20).copies(), 60);
        due("61", manyCopies(60, 0).copies(), FULL);
        due("RIGHT all the same", manyCopies(60, 0).judge(), 0);
        refused("61", () -> manyCopies(60, 0), Asked::copies, FULL);
        Asked x = manyCopies(59, 0);
        due("the last one's FUNCTION", x.copy(59, 0), 1);
        int before = x.count(1) - 1;
        x.body(0, x.on(3, before, x.call(1, 0, 9, 9)));
        due("one more", x.copies(), FULL);
        x.body(0, before);
        due("and back", x.copies(), 60);
        int half = x.count(1);
        x.function(0, 0, 0);
        x.body(2, before);
        x.body(0, x.call(2, 0));
        due("61 by one that is copied later", x.copies(), FULL);
        due("a NODE was made", x.count(1), half + 1);
    }

    private static void deeperNodes() {
        for (int depth = 4; depth <= 5; depth++) {
            int want = depth == 4 ? 2 : FULL;
            Asked x = atDepth(depth);
            x.body(1, x.choose(x.on(11, x.on(9, 2)), 0, 0));
            due("NIL of A, A of DEPTH " + depth, x.copies(), want);
            due("RIGHT all the same", x.judge(), 0);
            x.body(1, x.choose(x.on(11, x.on(10, 0, x.on(9, 0))), 0, 0));
            due("LISTS without LETTERS", x.copies(), 2);
            int nil = x.on(9, 2);
            int pair = x.on(6, 0, nil);
            x.body(1, x.choose(x.on(11, x.on(8, pair)), 0, 0));
            due("(INT, LIST of A), A of DEPTH " + depth, x.copies(), FULL);
            x.function(0, 0, 0);
            x.body(2, 0);
            x.body(0, x.call(2, 0));
            due("one that is not REACHED", x.copies(), 2);
        }
        Asked z = atDepth(5);
        int over = z.choose(z.on(11, z.on(9, 2)), 0, 0);
        for (int depth = 4; depth <= 12; depth++) {
            over = z.on(3, over, 0);
        }
        due("its BODY becomes it", z.body(1, over), 1);
        due("RIGHT", z.judge(), 0);
        due("eleven NODES above it", z.copies(), FULL);
        Asked y = atDepth(5);
        y.body(1, y.choose(y.on(11, y.on(9, 2)), 0, 0));
        refusedCopies("a NODE of DEPTH 6", () -> {
            Asked x = atDepth(5);
            x.body(1, x.choose(x.on(11, x.on(9, 2)), 0, 0));
            return x;
        });
        due("runs all the same", y.run(), 0);
    }

    private static void refusedCopies(String what, Checks.Scene scene) {
        refused(what, scene, Asked::copies, FULL);
    }

    private static void deeperCalls() {
        for (int depth = 4; depth <= 5; depth++) {
            int want = depth == 4 ? 3 : FULL;
            Asked x = atDepth(depth);
            x.function(1, 8, 0);
            x.body(2, x.number(3));
            x.body(1, x.call(2, x.on(9, 2), 2, NONE));
            due("argument LIST of A, A of DEPTH " + depth, x.copies(), want);
            Asked y = atDepth(depth);
            y.function(1, 0, 8);
            y.body(2, y.on(9, 2));
            y.body(1, y.choose(y.on(11, y.call(2, 0, 2, NONE)), 0, 0));
            due("result LIST of A, A of DEPTH " + depth, y.copies(), want);
        }
    }

    private static void deeperLetters() {
        for (int depth = 4; depth <= 5; depth++) {
            int want = depth == 4 ? 3 : FULL;
            Asked x = atDepth(depth);
            x.function(1, 0, 0);
            x.body(2, 0);
            x.body(1, x.call(2, 0, 8, NONE));
            due("LIST of A for A, A of DEPTH " + depth, x.copies(), want);
            x.body(1, x.call(2, 0, 2, NONE));
            due("A for A, A of DEPTH " + depth, x.copies(), 3);
            x.function(2, 0, 0);
            x.body(3, 0);
            x.body(1, x.call(3, 0, 0, 8));
            due("LIST of A for B, A of DEPTH " + depth, x.copies(), want);
            x.body(1, x.call(3, 0, 8, 0));
            due("LIST of A for A of two, A of DEPTH " + depth, x.copies(), want);
            x.body(1, x.call(3, 0, 2, 2));
            due("A for both, A of DEPTH " + depth, x.copies(), 3);
        }
        refusedCopies("a LETTER of DEPTH 6", () -> {
            Asked x = atDepth(5);
            x.function(1, 0, 0);
            x.body(2, 0);
            x.body(1, x.call(2, 0, 8, NONE));
            return x;
        });
    }

    private static void oneCopy() {
        Asked x = new Asked();
        x.function(0, 0, 0);
        x.body(0, x.argument());
        due("alone", x.copies(), 1);
        due("its FUNCTION", x.copy(0, 0), 0);
        x.body(0, x.call(0, 0));
        due("itself by a CALL", x.copies(), 1);
    }

    /** FUNCTIONS 0 and 1, the latter (A, B) from INT to INT with its argument as BODY; NODE 0 the argument. */
    private static Asked phantoms() {
        Asked x = new Asked();
        x.function(0, 0, 0);
        x.function(2, 0, 0);
        int a = x.argument();
        x.body(1, a);
        return x;
    }

    private static void copiesDue(String what, Asked x, int... types) {
        due(what + ": how many", x.copies(), 1 + types.length / 2);
        for (int i = 0; i < types.length / 2; i++) {
            due(what + ": A of copy " + (i + 1), x.copy(i + 1, 1), types[2 * i]);
            due(what + ": B of copy " + (i + 1), x.copy(i + 1, 2), types[2 * i + 1]);
        }
    }

    private static void copiesLeftToRight() {
        Asked x = phantoms();
        int tt = x.call(1, 0, 1, 1);
        int ti = x.call(1, 0, 1, 0);
        int it = x.call(1, 0, 0, 1);
        x.body(0, x.on(3, it, ti));
        copiesDue("ADD", x, 0, 1, 1, 0);
        x.body(0, x.on(3, ti, it));
        copiesDue("ADD, the other way round", x, 1, 0, 0, 1);
        x.body(0, x.choose(x.on(4, it, tt), ti, it));
        copiesDue("IF", x, 0, 1, 1, 1, 1, 0);
        x.body(0, x.choose(x.on(4, 0, 0), tt, ti));
        copiesDue("IF, b ahead of c", x, 1, 1, 1, 0);
        x.body(0, x.call(1, ti, 0, 0));
        copiesDue("a CALL's argument ahead of it", x, 1, 0, 0, 0);
        x.body(0, x.call(1, x.on(3, tt, x.call(1, it, 1, 0)), 0, 0));
        copiesDue("a CALL's argument, deep", x, 1, 1, 0, 1, 1, 0, 0, 0);
        x.body(0, x.on(7, x.on(6, x.on(8, x.on(6, tt, it)), ti)));
        copiesDue("PAIR, FIRST, SECOND", x, 1, 1, 0, 1, 1, 0);
        int nil = x.on(9, 0);
        x.body(0, x.on(12, x.on(13, x.on(10, tt, x.on(10, it, x.on(10, ti, nil))))));
        copiesDue("LINK, TAIL, HEAD", x, 1, 1, 0, 1, 1, 0);
    }

    private static void copiesOnce() {
        Asked x = phantoms();
        int it = x.call(1, 0, 0, 1);
        int ti = x.call(1, 0, 1, 0);
        int both = x.on(3, it, ti);
        x.body(0, x.on(3, both, both));
        copiesDue("a NODE twice", x, 0, 1, 1, 0);
        x.body(0, x.on(3, both, x.on(3, x.call(1, 0, 1, 0), x.call(1, 0, 0, 1))));
        copiesDue("NODES at like TYPES", x, 0, 1, 1, 0);
        x.body(1, x.call(1, 0, 2, 3));
        copiesDue("each comes back to itself", x, 0, 1, 1, 0);
        x.body(0, x.call(0, both));
        copiesDue("0 comes back to itself", x, 0, 1, 1, 0);
    }

    private static void copiesInOrder() {
        Asked x = phantoms();
        x.function(1, 0, 0);
        x.function(1, 0, 0);
        x.body(2, x.call(3, 0, 2, NONE));
        x.body(3, x.call(1, 0, 2, 2));
        x.body(0, x.on(3, x.call(2, 0, 1, NONE), x.call(2, 0, 0, NONE)));
        int[] functions = {0, 2, 2, 3, 3, 1, 1};
        int[] letters = {NONE, 1, 0, 1, 0, 1, 0};
        due("how many", x.copies(), 7);
        for (int i = 0; i < functions.length; i++) {
            due("FUNCTION of copy " + i, x.copy(i, 0), functions[i]);
            due("A of copy " + i, x.copy(i, 1), letters[i]);
            due("B of copy " + i, x.copy(i, 2), functions[i] == 1 ? letters[i] : NONE);
        }
    }

    private static void copiesRefusedInOrder() {
        Asked x = manyCopies(60, 0);
        due("FULL", x.copies(), FULL);
        int full = x.count(1) - 1;
        x.body(0, x.on(4, full, full));
        due("NO ahead of FULL", x.copies(), NO);
        x.body(0, full);
        due("FULL again", x.copies(), FULL);
    }

    // ---- promise 13

    private static void copyFacts() {
        sentence("13", "BAD: what", BoundaryTests::badCopyFacts);
        sentence("13", "NONE: not so many", BoundaryTests::notSoManyCopies);
        sentence("13", "NONE: copies() would be refused", BoundaryTests::copyOfRefused);
        sentence("13", "NONE: with what = 1, 2 where it has no such LETTER", BoundaryTests::copyWithoutLetter);
        sentence("13", "the WIDTH of its argument, of its result", BoundaryTests::copyWidths);
        sentence("13", "TYPES told by number, else as -5", BoundaryTests::copyUnnumbered);
    }

    private static void badCopyFacts() {
        for (int v : outside(6)) {
            refused("copy(0, " + v + ")", BoundaryTests::program, x -> x.copy(0, v), BAD);
            refused("copy(1, " + v + ")", BoundaryTests::program, x -> x.copy(1, v), BAD);
            refused("copy(2, " + v + "), with not so many", BoundaryTests::program, x -> x.copy(2, v), BAD);
            refused("copy(0, " + v + "), not RIGHT", BoundaryTests::notRight, x -> x.copy(0, v), BAD);
            due("copy(0, " + v + "), FULL", manyCopies(60, 0).copy(0, v), BAD);
        }
    }

    private static void notSoManyCopies() {
        for (int what = 0; what <= 5; what++) {
            int asked = what;
            for (int v : outside(2)) {
                refused("copy(" + v + ", " + what + ")", BoundaryTests::program, x -> x.copy(v, asked), NONE);
            }
            due("copy(60, " + what + ") of 60", manyCopies(59, 0).copy(60, what), NONE);
        }
        Asked x = program();
        due("the last one", x.copy(1, 0), 1);
        x.body(0, 1);
        due("copies()", x.copies(), 1);
        due("one that is no more", x.copy(1, 0), NONE);
    }

    private static void copyOfRefused() {
        for (int what = 0; what <= 5; what++) {
            int asked = what;
            for (int i = 0; i <= 1; i++) {
                int which = i;
                refused("not RIGHT, copy(" + i + ", " + what + ")", BoundaryTests::notRight, x -> x.copy(which, asked), NONE);
                refused("not REGULAR, copy(" + i + ", " + what + ")", BoundaryTests::notRegular, x -> x.copy(which, asked), NONE);
                refused("too many, copy(" + i + ", " + what + ")", () -> manyCopies(60, 0), x -> x.copy(which, asked), NONE);
            }
        }
        Asked x = atDepth(5);
        x.body(1, x.choose(x.on(11, x.on(9, 2)), 0, 0));
        due("too deep, copy(0, 0)", x.copy(0, 0), NONE);
        x.body(1, 0);
        due("no more too deep", x.copy(1, 1), 7);
    }

    private static void copyWithoutLetter() {
        Asked x = phantoms();
        x.function(1, 0, 0);
        x.body(2, 0);
        x.body(0, x.on(3, x.call(1, 0, 0, 1), x.call(2, 0, 1, NONE)));
        int[][] want = {{NONE, NONE}, {0, 1}, {1, NONE}};
        for (int i = 0; i < 3; i++) {
            due("copy(" + i + ", 1)", x.copy(i, 1), want[i][0]);
            due("copy(" + i + ", 2)", x.copy(i, 2), want[i][1]);
        }
    }

    private static void copyWidths() {
        Asked x = someTypes();
        x.function(0, 11, 7);
        x.function(1, 2, 7);
        int nil = x.on(9, 0);
        x.body(1, nil);
        int a = x.argument();
        x.body(0, x.call(1, a, 11, NONE));
        due("argument of 16", x.copy(0, 3), 16);
        due("result LIST", x.copy(0, 4), 1);
        due("A of 16", x.copy(1, 3), 16);
        due("its result", x.copy(1, 4), 1);
        int pairAA = x.pair(2, 2);
        x.function(1, 2, pairAA);
        x.body(2, x.on(6, a, a));
        x.body(0, x.choose(x.on(11, x.on(9, 0)), nil, x.call(1, x.call(2, x.on(7, a), 10, NONE), 11, NONE)));
        due("copies()", x.copies(), 3);
        due("argument of 8", x.copy(1, 3), 8);
        due("result of 16", x.copy(1, 4), 16);
        x.function(2, 3, 2);
        x.function(2, 2, 3);
        x.body(3, x.on(12, x.on(9, 2)));
        x.body(4, x.on(12, x.on(9, 3)));
        int three = x.call(3, x.on(7, x.on(7, a)), 8, 9);
        int four = x.call(4, x.on(7, three), 0, 9);
        x.body(0, x.choose(x.on(4, x.on(7, x.on(7, four)), x.number(1)), nil, nil));
        due("copies()", x.copies(), 3);
        int[][] want = {{0, NONE, NONE, 16, 1, 11}, {3, 8, 9, 4, 2, 9}, {4, 0, 9, 1, 4, 0}};
        for (int i = 0; i < 3; i++) {
            for (int what = 0; what <= 5; what++) {
                due("copy(" + i + ", " + what + ")", x.copy(i, what), want[i][what]);
            }
        }
    }

    private static void copyUnnumbered() {
        Asked x = new Asked();
        int listA = x.list(2);
        x.function(0, 0, 0);
        x.function(1, 0, 0);
        x.function(1, listA, 0);
        x.function(2, 0, 0);
        int a = x.argument();
        int nilA = x.on(9, 2);
        int n = x.number(4);
        x.body(2, n);
        x.body(3, n);
        x.body(1, x.on(3, x.call(2, nilA, 2, NONE), x.call(3, a, listA, 2)));
        x.body(0, x.call(1, a, 0, NONE));
        due("copies()", x.copies(), 4);
        due("argument LIST of INT without a number", x.copy(2, 5), UNNUMBERED);
        due("LIST of INT for A without a number", x.copy(3, 1), UNNUMBERED);
        x.body(1, x.on(3, x.call(2, nilA, 2, NONE), x.call(3, a, 2, listA)));
        due("LIST of INT for B without a number", x.copy(3, 2), UNNUMBERED);
        due("INT for A", x.copy(3, 1), 0);
        int listInt = x.list(0);
        due("argument with a number", x.copy(2, 5), listInt);
        due("B with a number", x.copy(3, 2), listInt);
    }
}
