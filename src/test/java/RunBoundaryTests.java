import java.util.HashMap;
import java.util.Map;

/**
 * For each sentence of promises 14 to 21, and of the term 3, that names a boundary case a test of its own.
 */
public final class RunBoundaryTests {
    private static final int NONE = Checks.NONE, BAD = Checks.BAD, NO = Checks.NO, FULL = Checks.FULL;
    private static final int MIN = Checks.MIN, MAX = Checks.MAX;

    private RunBoundaryTests() {
    }

    public static void main(String[] args) {
        inputs();
        arguments();
        refusedRuns();
        working();
        outcomes();
        results();
        latest();
        counts();
        digests();
        Checks.end("boundaries of runs");
    }

    private static void sentence(String promise, String words, Runnable test) {
        Checks.sentence(promise, words, test);
    }

    private static void due(String what, long got, long want) {
        Checks.due(what, got, want);
    }

    private static void refused(String what, Checks.Scene scene, Checks.Asking call, int want) {
        Checks.refused(what, scene, call, want);
    }

    /** Both runs with one outcome: what is told of them. */
    private static void bothEnd(String what, Asked x, int outcome, int steps, int links, int open) {
        for (int turn = 0; turn < 2; turn++) {
            String name = what + (turn == 0 ? ", run" : ", runCopies");
            due(name, turn == 0 ? x.run() : x.runCopies(), outcome);
            due(name + ", OUTCOME told", x.told(4), outcome);
            due(name + ", STEPS", x.told(1), steps);
            due(name + ", LINKS", x.told(2), links);
            due(name + ", FUNCTIONS open", x.told(3), open);
            if (outcome != 0) {
                due(name + ", no RESULT", x.told(0), 0);
                due(name + ", result(0)", x.result(0), 0);
            }
        }
    }

    /** Both runs end with a result: all of it. */
    private static void bothTell(String what, Asked x, int... want) {
        for (int turn = 0; turn < 2; turn++) {
            String name = what + (turn == 0 ? ", run" : ", runCopies");
            due(name, turn == 0 ? x.run() : x.runCopies(), 0);
            due(name + ", how many", x.told(0), want.length);
            for (int i = 0; i < want.length; i++) {
                due(name + ", result(" + i + ")", x.result(i), want[i]);
            }
            due(name + ", behind it", x.result(want.length), 0);
        }
    }

    // ---- programs

    /** FUNCTION 0 gives back its argument; some INPUT; a run was done. */
    private static Asked echo() {
        Asked x = new Asked();
        x.function(0, 0, 0);
        x.body(0, x.argument());
        x.input(41);
        x.input(42);
        due("run()", x.run(), 0);
        return x;
    }

    private static Asked fullInput() {
        Asked x = echo();
        for (int i = 3; i <= 16; i++) {
            due("input", x.input(40 + i), i);
        }
        return x;
    }

    /** 160 RUNS were done, the last with another BODY. */
    private static Asked fullRuns() {
        Asked x = echo();
        for (int i = 2; i < 160; i++) {
            due("run()", x.run(), 0);
        }
        x.body(0, x.on(3, 0, 0));
        due("run()", x.run(), 0);
        return x;
    }

    private static Asked notRight(Asked x) {
        x.body(0, x.truth(1));
        return x;
    }

    private static Asked notRegular() {
        Asked x = echo();
        x.function(1, 0, 0);
        x.body(1, x.call(1, 0, 0, NONE));
        x.body(0, x.call(1, 0, 0, NONE));
        due("judge()", x.judge(), 4);
        return x;
    }

    /** copies() is FULL; a run was done. */
    private static Asked fullCopies() {
        Asked x = new Asked();
        int deep = x.list(x.list(x.list(x.list(0))));
        x.function(0, 0, 0);
        x.function(1, 0, 0);
        int a = x.argument();
        x.body(1, x.choose(x.on(11, x.on(9, 2)), a, a));
        x.body(0, x.call(1, a, deep, NONE));
        x.input(77);
        due("copies()", x.copies(), FULL);
        due("run()", x.run(), 0);
        return x;
    }

    /** FUNCTION 0 from a TYPE to it, given back; NODE 0 the argument. */
    private static Asked echoOf(Asked x, int t) {
        x.function(0, t, t);
        x.body(0, x.argument());
        return x;
    }

    private static void give(Asked x, int... row) {
        x.empty();
        for (int v : row) {
            x.input(v);
        }
    }

    // ---- promises 14 and 15

    private static void inputs() {
        sentence("14", "One more of THE INPUT: how many", RunBoundaryTests::inputsOneMore);
        sentence("14", "FULL: 16", RunBoundaryTests::inputsFull);
        sentence("15", "THE INPUT is empty: how many there were", RunBoundaryTests::inputsEmpty);
    }

    private static void inputsOneMore() {
        Asked x = new Asked();
        int[] row = {MIN, -5, -4, -3, -2, -1, 0, 1, MAX};
        for (int i = 0; i < row.length; i++) {
            due("input(" + row[i] + ")", x.input(row[i]), i + 1);
            due("count(3)", x.count(3), i + 1);
        }
    }

    private static void inputsFull() {
        Asked x = fullInput();
        due("count(3)", x.count(3), 16);
        due("a 17th", x.input(1), FULL);
        due("count(3)", x.count(3), 16);
        refused("a 17th", RunBoundaryTests::fullInput, y -> y.input(99), FULL);
        sixteenTaken();
    }

    private static void sixteenTaken() {
        Asked x = new Asked();
        int t = 0;
        for (int depth = 2; depth <= 5; depth++) {
            t = x.pair(t, t);
        }
        echoOf(x, t);
        int[] row = new int[16];
        for (int i = 0; i < 16; i++) {
            row[i] = 100 + i;
            due("input", x.input(row[i]), i + 1);
        }
        due("refused", x.input(999), FULL);
        bothTell("all sixteen", x, row);
    }

    private static void inputsEmpty() {
        Asked x = new Asked();
        due("none", x.empty(), 0);
        x.input(5);
        due("one", x.empty(), 1);
        due("none again", x.empty(), 0);
        due("count(3)", x.count(3), 0);
        Asked y = fullInput();
        due("sixteen", y.empty(), 16);
        due("count(3)", y.count(3), 0);
        bothTell("where the row ends, 0", y, 0);
        due("the first again", y.input(8), 1);
        bothTell("the new one", y, 8);
    }

    // ---- the argument, term 3

    private static void arguments() {
        sentence("16", "INT as it is", RunBoundaryTests::ints);
        sentence("16", "TRUTH whether it is not 0", RunBoundaryTests::truths);
        sentence("16", "PAIR its parts", RunBoundaryTests::pairs);
        sentence("16", "LIST: how many follow (below 0: 0; above 4: 4)", RunBoundaryTests::listLengths);
        sentence("16", "where the row ends, 0", RunBoundaryTests::rowEnds);
        sentence("16", "the argument takes them in order", RunBoundaryTests::rowStaysAsItIs);
        sentence("16", "these LISTS' LINKS do not count as made", RunBoundaryTests::givenLinks);
    }

    private static void ints() {
        for (int v : new int[] {MIN, MIN + 1, -5, -1, 0, 1, MAX}) {
            Asked x = echoOf(new Asked(), 0);
            give(x, v);
            bothTell("INT " + v, x, v);
        }
    }

    private static void truths() {
        for (int v : new int[] {MIN, -1, 0, 1, 2, 256, 1 << 16, MAX}) {
            Asked x = echoOf(new Asked(), 1);
            give(x, v);
            bothTell("TRUTH " + v, x, v == 0 ? 0 : 1);
        }
    }

    private static void pairs() {
        Asked x = new Asked();
        int t = x.pair(x.pair(0, 1), x.pair(1, 0));
        echoOf(x, t);
        give(x, 5, 6, 7, 8);
        bothTell("left to right", x, 5, 1, 1, 8);
    }

    private static void listLengths() {
        Asked x = new Asked();
        echoOf(x, x.list(0));
        for (int v : new int[] {MIN, -5, -1, 0}) {
            give(x, v, 9, 8);
            bothTell("LIST of " + v, x, 0);
        }
        give(x, 1, 9, 8);
        bothTell("LIST of 1", x, 1, 9);
        give(x, 3, 9, 8, 7, 6, 5);
        bothTell("LIST of 3", x, 3, 9, 8, 7);
        for (int v : new int[] {4, 5, 16, MAX}) {
            give(x, v, 9, 8, 7, 6, 5);
            bothTell("LIST of " + v, x, 4, 9, 8, 7, 6);
        }
        Asked y = new Asked();
        echoOf(y, y.pair(y.list(0), 0));
        give(y, -3, 9, 8);
        bothTell("what follows a LIST below 0", y, 0, 9);
        give(y, 6, 1, 2, 3, 4, 5, 6);
        bothTell("what follows a LIST above 4", y, 4, 1, 2, 3, 4, 5);
    }

    private static void rowEnds() {
        Asked x = new Asked();
        int list = x.list(0);
        int lists = x.list(list);
        echoOf(x, x.pair(x.pair(0, 1), lists));
        bothTell("an empty row", x, 0, 0, 0);
        give(x, 7);
        bothTell("after an INT", x, 7, 0, 0);
        give(x, 7, 7);
        bothTell("after a TRUTH", x, 7, 1, 0);
        give(x, 7, 7, 3);
        bothTell("after how many", x, 7, 1, 3, 0, 0, 0);
        give(x, 7, 7, 3, 2);
        bothTell("after how many within", x, 7, 1, 3, 2, 0, 0, 0, 0);
        give(x, 7, 7, 2, 2, 5);
        bothTell("within", x, 7, 1, 2, 2, 5, 0, 0);
        int[] row = new int[16];
        for (int i = 0; i < 16; i++) {
            row[i] = 4;
        }
        Asked y = new Asked();
        echoOf(y, y.list(y.list(0)));
        give(y, row);
        bothTell("after the 16th", y, 4, 4, 4, 4, 4, 4, 4, 4, 4, 4, 4, 4, 4, 4, 4, 4, 0);
    }

    private static void rowStaysAsItIs() {
        Asked x = echo();
        bothTell("the first, each time", x, 41);
        bothTell("the first, each time", x, 41);
        due("count(3)", x.count(3), 2);
        due("empty()", x.empty(), 2);
    }

    private static void givenLinks() {
        Asked x = new Asked();
        echoOf(x, x.list(x.list(0)));
        give(x, 4, 3, 1, 2, 3, 3, 1, 2, 3, 3, 1, 2, 3, 3, 1, 2);
        bothEnd("sixteen given", x, 0, 1, 0, 1);
        Asked y = linking(100);
        give(y, 4, 1, 2, 3, 4);
        bothEnd("four given and 100 made", y, 0, stepsOfLinking(100), 100, 2);
        due("how many", y.result(0), 104);
    }

    // ---- programs that make so many LINKS, so many STEPS, so many FUNCTIONS open

    /**
     * FUNCTION 0 links so many (109 at most) to a LIST of INT that is given: FUNCTION 1 links ten,
     * FUNCTION 2 the rest. NODE 0 the argument, TYPE 4 the LIST.
     */
    private static Asked linking(int links) {
        Asked x = new Asked();
        int list = x.list(0);
        for (int f = 0; f < 3; f++) {
            x.function(0, list, list);
        }
        int a = x.argument();
        int n = x.number(7);
        int at = a;
        for (int i = 0; i < 10; i++) {
            if (i == links % 10) {
                x.body(2, at);
            }
            at = x.on(10, n, at);
        }
        x.body(1, at);
        at = a;
        for (int i = 0; i < links / 10; i++) {
            at = x.call(1, at);
        }
        x.body(0, x.call(2, at));
        due("judge()", x.judge(), 0);
        return x;
    }

    /** The argument and, for each CALL, it and its BODY's argument; a LINK and its NUMBER. */
    private static int stepsOfLinking(int links) {
        return 1 + 2 * (links / 10 + 1) + 2 * links;
    }

    /** FUNCTION 0 with a BODY that takes so many STEPS, the last of them an ARGUMENT's; NODE 0 the argument. */
    private static Asked stepping(int steps) {
        Asked x = echo();
        x.body(0, x.on(3, taking(x, steps - 2, 0), 0));
        due("judge()", x.judge(), 0);
        return x;
    }

    private static int taking(Asked x, int steps, int leaf) {
        return taking(x, steps, leaf, new HashMap<>());
    }

    /** An INT that takes so many STEPS (any number but 2) over a leaf that is an INT: sums, halved again and again. */
    private static int taking(Asked x, int steps, int leaf, Map<Integer, Integer> known) {
        if (steps == 1) {
            return leaf;
        }
        if (!known.containsKey(steps)) {
            int rest = steps - 1;
            int first = rest == 4 || rest == 5 ? 1 : rest / 2;
            known.put(steps, steps == 4 ? x.on(7, x.on(6, leaf, leaf))
                : x.on(3, taking(x, first, leaf, known), taking(x, rest - first, leaf, known)));
        }
        return known.get(steps);
    }

    private static int fullSum(Asked x, int depth) {
        int at = 0;
        for (int i = 1; i < depth; i++) {
            at = x.on(3, at, at);
        }
        return at;
    }

    // ---- promises 16 and 17: refused

    private static void refusedRuns() {
        sentence("16", "NO: THE PROGRAM is not RIGHT", RunBoundaryTests::runsOfNone);
        sentence("16", "FULL: 160 RUNS (of this call) were done", RunBoundaryTests::runsFull);
        sentence("16", "RUNS of this call: refused ones and those of copies are none", RunBoundaryTests::runsThatCount);
        sentence("16", "refused, the first of NO, FULL", RunBoundaryTests::runsRefusedInOrder);
        sentence("17", "NO: as copies()", RunBoundaryTests::copiesRunsOfNone);
        sentence("17", "FULL: as copies()", RunBoundaryTests::copiesRunsFull);
        sentence("17", "FULL: not by how many were done", RunBoundaryTests::copiesRunsWithoutEnd);
    }

    private static void runsOfNone() {
        refused("new", Asked::new, Asked::run, NO);
        refused("after a run, not RIGHT", () -> notRight(echo()), Asked::run, NO);
        refused("after a run, not REGULAR", RunBoundaryTests::notRegular, Asked::run, NO);
        Asked x = notRight(echo());
        due("run()", x.run(), NO);
        due("the RESULT of the one that was not refused", x.result(0), 41);
    }

    private static void runsFull() {
        Asked x = fullRuns();
        due("result(0) of the 160th", x.result(0), 82);
        x.body(0, 0);
        due("a 161st", x.run(), FULL);
        due("result(0) of the 160th", x.result(0), 82);
        due("STEPS of the 160th", x.told(1), 3);
        refused("a 161st", RunBoundaryTests::fullRuns, Asked::run, FULL);
        due("those of copies go on", x.runCopies(), 0);
        due("and are told", x.result(0), 41);
        due("still", x.run(), FULL);
        due("the copies' stays the latest", x.result(0), 41);
    }

    private static void runsThatCount() {
        Asked x = new Asked();
        for (int i = 0; i < 10; i++) {
            due("run() without a PROGRAM", x.run(), NO);
        }
        x.function(0, 0, 0);
        int fails = x.on(12, x.on(9, 0));
        x.body(0, fails);
        for (int i = 0; i < 100; i++) {
            due("one that ends by 1", x.run(), 1);
            due("one of copies", x.runCopies(), 1);
        }
        x.body(0, x.truth(1));
        for (int i = 0; i < 10; i++) {
            due("one that is refused", x.run(), NO);
        }
        x.body(0, x.number(4));
        for (int i = 0; i < 60; i++) {
            due("one that ends by 0", x.run(), 0);
        }
        due("a 161st", x.run(), FULL);
    }

    private static void runsRefusedInOrder() {
        refused("NO ahead of FULL", () -> notRight(fullRuns()), Asked::run, NO);
        Asked x = notRight(fullRuns());
        due("NO", x.run(), NO);
        x.body(0, 0);
        due("FULL", x.run(), FULL);
    }

    private static void copiesRunsOfNone() {
        refused("new", Asked::new, Asked::runCopies, NO);
        refused("after a run, not RIGHT", () -> notRight(echo()), Asked::runCopies, NO);
        refused("after a run, not REGULAR", RunBoundaryTests::notRegular, Asked::runCopies, NO);
    }

    private static void copiesRunsFull() {
        refused("FULL", RunBoundaryTests::fullCopies, Asked::runCopies, FULL);
        refused("NO ahead of FULL", () -> notRight(fullCopies()), Asked::runCopies, NO);
        Asked x = fullCopies();
        due("runCopies()", x.runCopies(), FULL);
        due("the RUN stays the latest", x.result(0), 77);
        due("the RUN is not refused", x.run(), 0);
    }

    private static void copiesRunsWithoutEnd() {
        Asked x = echo();
        for (int i = 0; i < 200; i++) {
            due("runCopies()", x.runCopies(), 0);
        }
        for (int i = 0; i < 159; i++) {
            due("run()", x.run(), 0);
        }
        due("a 161st", x.run(), FULL);
        due("runCopies()", x.runCopies(), 0);
    }

    // ---- promises 16 and 17: working

    private static void working() {
        sentence("16", "ADD wraps", RunBoundaryTests::wraps);
        sentence("16", "LESS, at the ends of the ints", RunBoundaryTests::lessAtTheEnds);
        sentence("16", "of IF a, then b or c", RunBoundaryTests::oneOfIf);
        sentence("16", "EMPTY of an empty LIST", RunBoundaryTests::emptyOfEmpty);
        sentence("16", "Parts are worked from left to right", RunBoundaryTests::leftToRight);
        sentence("16", "Each NODE that is worked is a STEP", RunBoundaryTests::eachIsAStep);
        sentence("17", "values lying flat in cells as WIDTHS tell", RunBoundaryTests::widestValues);
        sentence("17", "FIRST, SECOND: its part, in cells", RunBoundaryTests::partsInCells);
        sentence("17", "DEPTH 12, in cells", RunBoundaryTests::deepestInCells);
        sentence("17", "TYPES for both LETTERS, in cells", RunBoundaryTests::lettersInCells);
    }

    private static Asked overTwo(int kind, int result) {
        Asked x = new Asked();
        x.pair(0, 0);
        x.function(0, 4, result);
        int a = x.argument();
        x.body(0, x.on(kind, x.on(7, a), x.on(8, a)));
        return x;
    }

    private static void wraps() {
        int[][] rows = {{MAX, 1, MIN}, {1, MAX, MIN}, {MIN, -1, MAX}, {MIN, MIN, 0}, {MAX, MAX, -2}, {MAX, MIN, -1}, {0, 0, 0}};
        for (int[] row : rows) {
            Asked x = overTwo(3, 0);
            give(x, row[0], row[1]);
            bothTell("ADD of " + row[0] + ", " + row[1], x, row[2]);
        }
    }

    private static void lessAtTheEnds() {
        int[][] rows = {{MIN, MAX, 1}, {MAX, MIN, 0}, {MIN, MIN, 0}, {MAX, MAX, 0}, {-1, 0, 1}, {0, -1, 0}, {MIN, 1, 1}, {1, MIN, 0}};
        for (int[] row : rows) {
            Asked x = overTwo(4, 1);
            give(x, row[0], row[1]);
            bothTell("LESS of " + row[0] + ", " + row[1], x, row[2]);
        }
    }

    private static void oneOfIf() {
        Asked x = echo();
        int fails = x.on(12, x.on(9, 0));
        int t = x.truth(1);
        int f = x.truth(0);
        x.body(0, x.choose(t, 0, fails));
        bothEnd("b alone", x, 0, 3, 0, 1);
        bothTell("b", x, 41);
        x.body(0, x.choose(f, fails, 0));
        bothEnd("c alone", x, 0, 3, 0, 1);
        bothTell("c", x, 41);
        x.body(0, x.choose(t, fails, 0));
        bothEnd("b that fails", x, 1, 4, 0, 1);
        x.body(0, x.choose(f, 0, fails));
        bothEnd("c that fails", x, 1, 4, 0, 1);
    }

    private static void emptyOfEmpty() {
        Asked x = new Asked();
        int list = x.list(0);
        x.function(0, list, 1);
        int a = x.argument();
        x.body(0, x.on(11, a));
        bothTell("given none", x, 1);
        give(x, 1, 0);
        bothTell("given one", x, 0);
        x.body(0, x.on(11, x.on(13, a)));
        bothTell("the TAIL of one", x, 1);
        give(x, 2);
        bothTell("the TAIL of two", x, 0);
        x.body(0, x.on(11, x.on(9, list)));
        bothTell("NIL", x, 1);
        bothEnd("NIL", x, 0, 2, 0, 1);
    }

    private static void leftToRight() {
        Asked x = echo();
        int nil = x.on(9, 0);
        int fails = x.on(12, nil);
        int link = x.on(12, x.on(10, 0, nil));
        int made = x.on(4, link, link);
        x.body(0, x.on(3, link, fails));
        bothEnd("ADD, the second fails", x, 1, 7, 1, 1);
        x.body(0, x.on(3, fails, link));
        bothEnd("ADD, the first fails", x, 1, 3, 0, 1);
        x.body(0, x.on(7, x.on(6, link, fails)));
        bothEnd("PAIR, the second fails", x, 1, 8, 1, 1);
        x.body(0, x.on(7, x.on(6, fails, link)));
        bothEnd("PAIR, the first fails", x, 1, 4, 0, 1);
        x.body(0, x.on(12, x.on(10, fails, x.on(10, 0, nil))));
        bothEnd("LINK, the first fails", x, 1, 4, 0, 1);
        x.body(0, x.on(12, x.on(10, link, x.on(13, nil))));
        bothEnd("LINK, the second fails", x, 1, 8, 1, 1);
        x.body(0, x.choose(made, fails, 0));
        bothEnd("IF, its first made LINKS", x, 0, 11, 2, 1);
        x.body(0, x.choose(x.on(4, fails, link), 0, 0));
        bothEnd("IF, its first fails", x, 1, 4, 0, 1);
    }

    private static void eachIsAStep() {
        Asked x = echo();
        bothEnd("one", x, 0, 1, 0, 1);
        int sum = x.on(3, 0, 0);
        x.body(0, x.on(3, sum, sum));
        bothEnd("a NODE as often as it is worked", x, 0, 7, 0, 1);
        x.function(0, 0, 0);
        x.body(1, sum);
        x.body(0, x.call(1, x.call(1, 0)));
        bothEnd("a CALL, its argument, its BODY", x, 0, 9, 0, 2);
        bothTell("a CALL, its argument, its BODY", x, 164);
    }

    private static void widestValues() {
        Asked x = new Asked();
        int t = 0;
        for (int depth = 2; depth <= 5; depth++) {
            t = x.pair(t, t);
        }
        int eight = x.type(t, 1);
        int lists = x.list(eight);
        x.function(0, t, t);
        x.function(2, 2, 2);
        int a = x.argument();
        x.body(1, a);
        int first = x.on(7, a);
        int second = x.on(8, a);
        int list = x.on(10, first, x.on(10, second, x.on(9, eight)));
        int there = x.call(1, list, lists, t);
        int back = x.on(6, x.on(12, x.on(13, there)), x.on(12, there));
        x.body(0, x.call(1, back, t, 0));
        int[] want = new int[16];
        for (int i = 0; i < 16; i++) {
            x.input(i + 1);
            want[i] = (i + 8) % 16 + 1;
        }
        due("WIDTH 16", x.copy(0, 3), 16);
        bothTell("halves of 16 that go through LINKS and CALLS", x, want);
    }

    private static void partsInCells() {
        Asked x = new Asked();
        int two = x.pair(0, 0);
        int left = x.pair(two, 0);
        x.function(0, x.pair(left, two), 0);
        int a = x.argument();
        int[][] ways = {{7, 7, 7}, {7, 7, 8}, {7, 8}, {8, 7}, {8, 8}};
        give(x, 1, 2, 3, 4, 5);
        for (int i = 0; i < ways.length; i++) {
            int at = a;
            for (int kind : ways[i]) {
                at = x.on(kind, at);
            }
            x.body(0, at);
            bothTell("cell " + i, x, i + 1);
        }
    }

    private static void deepestInCells() {
        Asked x = new Asked();
        x.function(0, x.pair(0, 0), 0);
        int a = x.argument();
        int none = x.number(0);
        give(x, 5, 6);
        for (int kind = 7; kind <= 8; kind++) {
            int at = x.on(kind, a);
            for (int depth = 3; depth <= 12; depth++) {
                at = depth % 2 == 0 ? x.on(3, none, at) : x.on(3, at, none);
            }
            due("DEPTH 13", x.on(3, at, none), NO);
            due("its BODY becomes it", x.body(0, at), 1);
            bothTell("a PAIR that ten sums stand above", x, kind - 2);
        }
    }

    private static void lettersInCells() {
        Asked x = new Asked();
        int pairAB = x.pair(2, 3);
        int pairBA = x.pair(3, 2);
        int two = x.pair(0, 0);
        int three = x.pair(0, two);
        int start = x.pair(two, three);
        x.function(0, start, x.pair(three, two));
        x.function(2, pairAB, pairBA);
        int a = x.argument();
        x.body(1, x.on(6, x.on(8, a), x.on(7, a)));
        x.body(0, x.call(1, a, two, three));
        give(x, 1, 2, 3, 4, 5);
        bothTell("B ahead of A", x, 3, 4, 5, 1, 2);
        x.body(0, x.call(1, x.call(1, x.call(1, a, two, three), three, two), two, three));
        bothTell("three times", x, 3, 4, 5, 1, 2);
        due("copies()", x.copies(), 3);
    }

    // ---- promises 16 and 17: OUTCOMES

    private static void outcomes() {
        sentence("16", "1 HEAD of an empty LIST", RunBoundaryTests::headOfEmpty);
        sentence("16", "1 TAIL of an empty LIST", RunBoundaryTests::tailOfEmpty);
        sentence("16", "2 a 601st STEP", RunBoundaryTests::stepsFull);
        sentence("16", "2 a STEP, as it begins", RunBoundaryTests::stepAsItBegins);
        sentence("16", "3 a CALL with 30 FUNCTIONS open (FUNCTION 0 is one)", RunBoundaryTests::openFull);
        sentence("16", "3 its argument being worked", RunBoundaryTests::openAfterArgument);
        sentence("16", "4 a 101st LINK that is made", RunBoundaryTests::linksFull);
        sentence("16", "4 its parts being worked", RunBoundaryTests::linksAfterParts);
        sentence("16", "by an OUTCOME: the one that comes first", RunBoundaryTests::firstOutcome);
        sentence("16", "a RUN is called anew, whatever OUTCOME others had", RunBoundaryTests::runsAnew);
    }

    private static Asked overList(int kind, int result) {
        Asked x = new Asked();
        x.list(0);
        x.function(0, 4, result);
        x.body(0, x.on(kind, x.argument()));
        return x;
    }

    private static void headOfEmpty() {
        Asked x = overList(12, 0);
        bothEnd("given none", x, 1, 2, 0, 1);
        give(x, -1, 5);
        bothEnd("given below 0", x, 1, 2, 0, 1);
        give(x, 1, 5);
        bothEnd("given one", x, 0, 2, 0, 1);
        bothTell("given one", x, 5);
        x.body(0, x.on(12, x.on(13, 0)));
        bothEnd("of the TAIL of one", x, 1, 3, 0, 1);
        give(x, 2, 5, 6);
        bothTell("of the TAIL of two", x, 6);
        x.body(0, x.on(12, x.on(9, 0)));
        bothEnd("of NIL", x, 1, 2, 0, 1);
    }

    private static void tailOfEmpty() {
        Asked x = overList(13, 4);
        bothEnd("given none", x, 1, 2, 0, 1);
        give(x, 1, 5);
        bothEnd("given one", x, 0, 2, 0, 1);
        bothTell("given one", x, 0);
        x.body(0, x.on(13, x.on(13, 0)));
        bothEnd("of the TAIL of one", x, 1, 3, 0, 1);
        give(x, 2, 5, 6);
        bothTell("of the TAIL of two", x, 0);
        x.body(0, x.on(13, x.on(9, 0)));
        bothEnd("of NIL", x, 1, 2, 0, 1);
    }

    private static void stepsFull() {
        bothEnd("599", stepping(599), 0, 599, 0, 1);
        bothEnd("600", stepping(600), 0, 600, 0, 1);
        bothEnd("601", stepping(601), 2, 601, 0, 1);
        bothEnd("602", stepping(602), 2, 601, 0, 1);
        Asked x = echo();
        x.body(0, fullSum(x, 12));
        bothEnd("far above", x, 2, 601, 0, 1);
        Asked y = echo();
        y.body(0, y.call(0, 0));
        bothEnd("itself without an end: 3 comes first", y, 3, 60, 0, 30);
    }

    /** FUNCTION 0: the sum of what takes so many STEPS, and of a NODE that last() makes. */
    private static Asked stepsAhead(int ahead, Maker last) {
        Asked x = echo();
        x.list(0);
        x.function(0, 0, 0);
        x.body(1, 0);
        int right = last.make(x);
        x.body(0, x.on(3, taking(x, ahead - 1, 0), right));
        due("judge()", x.judge(), 0);
        return x;
    }

    private interface Maker {
        int make(Asked x);
    }

    private static void stepAsItBegins() {
        bothEnd("NUMBER is the 600th", stepsAhead(599, x -> x.number(1)), 0, 600, 0, 1);
        bothEnd("NUMBER is the 601st", stepsAhead(600, x -> x.number(1)), 2, 601, 0, 1);
        bothEnd("HEAD of NIL, NIL the 601st", stepsAhead(599, x -> x.on(12, x.on(9, 0))), 2, 601, 0, 1);
        bothEnd("HEAD of NIL, NIL the 600th", stepsAhead(598, x -> x.on(12, x.on(9, 0))), 1, 600, 0, 1);
        bothEnd("a CALL's BODY is the 600th", stepsAhead(597, x -> x.call(1, 0)), 0, 600, 0, 2);
        bothEnd("a CALL's argument is the 601st", stepsAhead(599, x -> x.call(1, 0)), 2, 601, 0, 1);
        bothEnd("IF's branch is the 600th", stepsAhead(597, x -> x.choose(x.truth(0), 0, 0)), 0, 600, 0, 1);
        bothEnd("IF's branch is the 601st", stepsAhead(598, x -> x.choose(x.truth(0), 0, 0)), 2, 601, 0, 1);
        Asked y = stepsAhead(598, x -> x.call(1, 0));
        due("a CALL's BODY is the 601st", y.run(), 2);
        due("STEPS", y.told(1), 601);
    }

    /**
     * FUNCTION 1 calls itself until its argument, one less each time, is 0; then it is what last() makes.
     * FUNCTION 0 calls it with its own, so that with n given n + 2 FUNCTIONS are open at the end.
     */
    private static Asked opening(Maker last) {
        Asked x = echo();
        x.list(0);
        x.function(0, 0, 0);
        int down = x.call(1, x.on(3, 0, x.number(-1)));
        x.body(1, x.choose(x.on(4, 0, x.number(1)), last.make(x), down));
        x.body(0, x.call(1, 0));
        due("judge()", x.judge(), 0);
        return x;
    }

    /** CALL and argument; LESS, its parts, IF, and CALL with its sum of two; at the end LESS, its parts, IF. */
    private static int stepsOfOpening(int given, int last) {
        return 2 + 8 * given + 4 + last;
    }

    private static void openFull() {
        Asked x = opening(y -> y.number(5));
        for (int given = 26; given <= 28; given++) {
            give(x, given);
            bothEnd(given + 2 + " open", x, 0, stepsOfOpening(given, 1), 0, given + 2);
            bothTell(given + 2 + " open", x, 5);
        }
        for (int given = 29; given <= 31; given++) {
            give(x, given);
            bothEnd("a 31st", x, 3, 2 + 8 * 29, 0, 30);
        }
        Asked two = echo();
        two.function(0, 0, 0);
        int sum = two.on(3, 0, two.number(1));
        two.body(1, sum);
        int eight = 0;
        for (int i = 0; i < 8; i++) {
            eight = two.call(1, eight);
        }
        two.body(0, two.on(3, two.on(3, eight, eight), two.on(3, eight, eight)));
        bothEnd("32 CALLS, one after another", two, 0, 3 + 4 * (1 + 8 * 4), 0, 2);
        bothTell("32 CALLS, one after another", two, 4 * 41 + 32);
    }

    private static void openAfterArgument() {
        Asked x = opening(y -> y.call(1, y.on(12, y.on(9, 0))));
        give(x, 28);
        bothEnd("the argument fails, 30 open", x, 1, stepsOfOpening(28, 3), 0, 30);
        Asked y = opening(z -> z.call(1, z.on(12, z.on(10, 0, z.on(9, 0)))));
        give(y, 28);
        bothEnd("the argument makes a LINK, 30 open", y, 3, stepsOfOpening(28, 5), 1, 30);
        due("result(0)", y.result(0), 0);
    }

    /** To linking(100) FUNCTION 3, which makes its 100 LINKS, and a CALL of it, which takes so many STEPS. */
    private static int callOfHundred(Asked x) {
        int body = x.count(1) - 1;
        x.function(0, 4, 4);
        x.body(3, body);
        return x.call(3, 0);
    }

    private static final int HUNDRED = 2 + stepsOfLinking(100);

    private static void linksFull() {
        bothEnd("99", linking(99), 0, stepsOfLinking(99), 99, 2);
        bothEnd("100", linking(100), 0, stepsOfLinking(100), 100, 2);
        bothEnd("101", linking(101), 4, stepsOfLinking(101), 101, 2);
        bothEnd("nine more, of which the innermost is the 101st", linking(109), 4, stepsOfLinking(109), 101, 2);
        Asked x = linking(100);
        int hundred = callOfHundred(x);
        x.body(0, x.on(10, 1, hundred));
        bothEnd("a 101st in FUNCTION 0", x, 4, 2 + HUNDRED, 101, 3);
    }

    private static void linksAfterParts() {
        Asked x = linking(100);
        int hundred = callOfHundred(x);
        int nil = x.on(9, 0);
        x.body(0, x.on(10, x.on(12, hundred), x.on(13, nil)));
        bothEnd("its second part fails", x, 1, 2 + HUNDRED + 2, 100, 3);
        x.body(0, x.on(10, x.on(12, hundred), nil));
        bothEnd("its parts stand", x, 4, 2 + HUNDRED + 1, 101, 3);
        x.body(0, x.on(10, x.on(12, nil), hundred));
        bothEnd("its first part fails, ahead of 100", x, 1, 3, 0, 1);
    }

    private static void firstOutcome() {
        Asked x = opening(y -> y.call(1, 0));
        give(x, 28);
        bothEnd("a CALL with 30 open", x, 3, stepsOfOpening(28, 2), 0, 30);
        bothEnd("a CALL with 30 open, its argument ending by the 600th STEP", openingAt(600), 3, 600, 0, 30);
        bothEnd("a CALL with 30 open, its argument ending by the 601st STEP", openingAt(601), 2, 601, 0, 30);
        bothEnd("a 101st LINK, its parts ending by the 600th STEP", linkingAt(600), 4, 600, 101, 3);
        bothEnd("a 101st LINK, its parts ending by the 601st STEP", linkingAt(601), 2, 601, 100, 3);
    }

    /** With 30 open a CALL whose argument ends by such a STEP. */
    private static Asked openingAt(int step) {
        int ahead = stepsOfOpening(28, 1);
        Asked x = opening(y -> y.call(1, taking(y, step - ahead, 0)));
        give(x, 28);
        return x;
    }

    /** A 101st LINK whose second part, which made the 100, ends by such a STEP. */
    private static Asked linkingAt(int step) {
        Asked x = linking(100);
        int hundred = callOfHundred(x);
        int nil = x.on(9, 0);
        int ahead = 1 + 2 + HUNDRED + 1;
        x.body(0, x.on(10, taking(x, step - ahead, 1), x.choose(x.on(11, hundred), nil, nil)));
        due("judge()", x.judge(), 0);
        return x;
    }

    /** Runs that end with many values waiting leave nothing to those that follow. */
    private static void runsAnew() {
        Asked x = new Asked();
        int t = x.pair(0, 0);
        t = x.pair(t, t);
        t = x.pair(t, t);
        x.list(t);
        x.function(0, t, 0);
        x.function(0, t, t);
        int a = x.argument();
        int ends = x.on(7, x.on(7, x.on(7, a)));
        int waits = x.on(7, x.on(6, a, x.call(1, a)));
        x.body(1, waits);
        int fails = x.on(7, x.on(7, x.on(7, x.call(1, a))));
        give(x, 6, 5);
        x.body(0, ends);
        bothTell("ahead of all", x, 6);
        for (int turn = 0; turn < 100; turn++) {
            x.body(0, fails);
            due("run() that fails", x.run(), 3);
            due("runCopies() that fails", x.runCopies(), 3);
        }
        due("FUNCTIONS open", x.told(3), 30);
        x.body(0, x.on(3, ends, ends));
        bothTell("behind them", x, 12);
        x.body(0, x.on(12, x.on(9, 0)));
        due("run() that fails", x.run(), 1);
        due("runCopies() that fails", x.runCopies(), 1);
        x.body(0, ends);
        bothTell("behind these", x, 6);
        bothEnd("behind these", x, 0, 4, 0, 1);
    }

    // ---- promises 18 and 19

    private static void results() {
        sentence("18", "0: it has not so many", RunBoundaryTests::notSoMany);
        sentence("18", "0: the OUTCOME was not 0", RunBoundaryTests::noResultWithoutEnd);
        sentence("18", "THE RESULT: the first 100", RunBoundaryTests::firstHundred);
        sentence("18", "TRUTH (1, 0), LIST how many and then these", RunBoundaryTests::emptyResults);
        sentence("19", "BAD", RunBoundaryTests::badTold);
        sentence("19", "NONE before any", RunBoundaryTests::toldBeforeAny);
        sentence("19", "how many THE RESULT has (of 100; 0 likewise)", RunBoundaryTests::howManyOfHundred);
    }

    private static void notSoMany() {
        for (int v : Checks.outside(1)) {
            refused("result(" + v + ") of one", RunBoundaryTests::echo, x -> x.result(v), 0);
            refused("result(" + v + ") of none", Asked::new, x -> x.result(v), 0);
        }
        due("result(0) of none", new Asked().result(0), 0);
        due("result(0) of one", echo().result(0), 41);
        Asked x = new Asked();
        echoOf(x, x.list(0));
        give(x, 4, 9, 9, 9, 9);
        bothTell("five", x, 4, 9, 9, 9, 9);
        give(x, 1, 9);
        bothTell("then two", x, 1, 9);
        due("a third", x.result(2), 0);
        due("a fourth", x.result(3), 0);
    }

    private static void noResultWithoutEnd() {
        Asked x = new Asked();
        echoOf(x, x.list(0));
        give(x, 2, 8, 9);
        bothTell("three", x, 2, 8, 9);
        x.body(0, x.on(13, x.on(9, 0)));
        for (int turn = 0; turn < 2; turn++) {
            due("fails", turn == 0 ? x.run() : x.runCopies(), 1);
            for (int i = 0; i < 4; i++) {
                due("result(" + i + ")", x.result(i), 0);
            }
            due("told(0)", x.told(0), 0);
        }
    }

    private static void firstHundred() {
        int[] sizes = {97, 98, 99, 100};
        for (int size : sizes) {
            Asked x = linking(size);
            for (int turn = 0; turn < 2; turn++) {
                due("run", turn == 0 ? x.run() : x.runCopies(), 0);
                due("LIST of " + size + ", how many are told", x.told(0), Math.min(100, size + 1));
                due("LIST of " + size + ", how many are linked", x.result(0), size);
                due("LIST of " + size + ", result(97)", x.result(97), 7);
                due("LIST of " + size + ", result(98)", x.result(98), size > 97 ? 7 : 0);
                due("LIST of " + size + ", result(99)", x.result(99), size > 98 ? 7 : 0);
                due("LIST of " + size + ", result(100)", x.result(100), 0);
                due("LIST of " + size + ", result(101)", x.result(101), 0);
            }
        }
        hundredInPairs();
        hundredInLists();
    }

    /** The 100th is the first part of a PAIR, the 101st its second. */
    private static void hundredInPairs() {
        Asked x = new Asked();
        int two = x.pair(0, 0);
        int twos = x.list(two);
        int four = x.pair(twos, two);
        x.function(0, two, four);
        x.function(0, twos, twos);
        int a = x.argument();
        int pair = x.on(6, x.number(1), x.number(2));
        int at = a;
        for (int i = 0; i < 7; i++) {
            at = x.on(10, pair, at);
        }
        x.body(1, at);
        int list = x.on(9, two);
        for (int i = 0; i < 7; i++) {
            list = x.call(1, list);
        }
        x.body(0, x.on(6, list, a));
        give(x, 8, 9);
        for (int turn = 0; turn < 2; turn++) {
            due("run", turn == 0 ? x.run() : x.runCopies(), 0);
            due("how many", x.told(0), 100);
            due("how many PAIRS", x.result(0), 49);
            due("the last of the LIST", x.result(98), 2);
            due("the 100th", x.result(99), 8);
            due("the 101st", x.result(100), 0);
        }
    }

    /** LISTS in a LIST: 5 of 24 are 1 + 5 * 25. */
    private static void hundredInLists() {
        Asked x = new Asked();
        int list = x.list(0);
        int lists = x.list(list);
        x.function(0, 0, lists);
        x.function(0, list, list);
        x.function(0, list, lists);
        int a = x.argument();
        int at = a;
        for (int i = 0; i < 8; i++) {
            at = x.on(10, x.number(i), at);
        }
        x.body(1, at);
        int all = x.on(9, list);
        for (int i = 0; i < 5; i++) {
            all = x.on(10, a, all);
        }
        x.body(2, all);
        x.body(0, x.call(2, x.call(1, x.call(1, x.call(1, x.on(9, 0))))));
        for (int turn = 0; turn < 2; turn++) {
            due("run", turn == 0 ? x.run() : x.runCopies(), 0);
            due("how many", x.told(0), 100);
            due("LISTS", x.result(0), 5);
            for (int i = 0; i < 99; i++) {
                due("result(" + (i + 1) + ")", x.result(i + 1), i % 25 == 0 ? 24 : 7 - (i % 25 - 1) % 8);
            }
            due("result(100)", x.result(100), 0);
        }
    }

    private static void emptyResults() {
        Asked x = new Asked();
        int list = x.list(0);
        x.function(0, 0, x.pair(x.pair(1, list), x.pair(1, 0)));
        int a = x.argument();
        x.body(0, x.on(6, x.on(6, x.truth(1), x.on(9, 0)), x.on(6, x.truth(0), a)));
        give(x, 6);
        bothTell("TRUTHS and an empty LIST", x, 1, 0, 0, 6);
        Asked y = new Asked();
        echoOf(y, y.list(y.list(0)));
        bothTell("an empty LIST of LISTS", y, 0);
        give(y, 2, 0, 0);
        bothTell("a LIST of empty LISTS", y, 2, 0, 0);
    }

    private static void badTold() {
        for (int v : Checks.outside(5)) {
            refused("told(" + v + ") after a run", RunBoundaryTests::echo, x -> x.told(v), BAD);
            refused("told(" + v + ") before any", Asked::new, x -> x.told(v), BAD);
        }
    }

    private static void toldBeforeAny() {
        Asked x = new Asked();
        for (int what = 0; what <= 4; what++) {
            due("told(" + what + ") of a new object", x.told(what), what == 4 ? NONE : 0);
        }
        due("refused", x.run(), NO);
        due("refused", x.runCopies(), NO);
        due("told(4) after refused ones", x.told(4), NONE);
        x.function(0, 0, 0);
        x.body(0, x.number(3));
        due("told(4) before the first", x.told(4), NONE);
        due("the first", x.run(), 0);
        due("told(4)", x.told(4), 0);
    }

    private static void howManyOfHundred() {
        Asked x = linking(98);
        due("run()", x.run(), 0);
        due("99", x.told(0), 99);
        Asked y = linking(99);
        due("run()", y.run(), 0);
        due("100", y.told(0), 100);
        Asked z = linking(100);
        give(z, 4);
        due("run()", z.run(), 0);
        due("105, of 100", z.told(0), 100);
        Asked w = linking(101);
        due("run()", w.run(), 4);
        due("0 likewise", w.told(0), 0);
    }

    // ---- the latest of both

    private static void latest() {
        sentence("18", "of the latest of both that was not refused", RunBoundaryTests::latestResult);
        sentence("19", "of that one", RunBoundaryTests::latestTold);
    }

    private static void latestResult() {
        Asked x = echo();
        give(x, 50);
        due("the earlier one, with another INPUT since", x.result(0), 41);
        due("runCopies()", x.runCopies(), 0);
        due("of the copies", x.result(0), 50);
        give(x, 60);
        due("run()", x.run(), 0);
        due("of the program", x.result(0), 60);
        x.empty();
        x.body(0, x.truth(1));
        due("refused", x.run(), NO);
        due("refused", x.runCopies(), NO);
        due("still that one", x.result(0), 60);
        x.body(0, x.on(12, x.on(9, 0)));
        due("fails", x.runCopies(), 1);
        due("it has none", x.result(0), 0);
    }

    private static void latestTold() {
        Asked x = echo();
        x.function(0, 0, 0);
        x.body(1, 0);
        int nil = x.on(9, 0);
        x.body(0, x.call(1, x.on(12, x.on(10, 0, nil))));
        due("runCopies()", x.runCopies(), 0);
        int[] want = {1, 6, 1, 2, 0};
        for (int what = 0; what <= 4; what++) {
            due("told(" + what + ")", x.told(what), want[what]);
        }
        notRight(x);
        due("refused", x.run(), NO);
        due("refused", x.runCopies(), NO);
        for (int what = 0; what <= 4; what++) {
            due("told(" + what + ") after refused ones", x.told(what), want[what]);
        }
        x.body(0, x.on(12, nil));
        due("run()", x.run(), 1);
        int[] then = {0, 2, 0, 1, 1};
        for (int what = 0; what <= 4; what++) {
            due("told(" + what + ") after one that fails", x.told(what), then[what]);
        }
        x.body(0, 0);
        due("run()", x.run(), 0);
        int[] last = {1, 1, 0, 1, 0};
        for (int what = 0; what <= 4; what++) {
            due("told(" + what + ") after one that ends", x.told(what), last[what]);
        }
    }

    // ---- promises 20 and 21

    private static void counts() {
        sentence("20", "BAD", RunBoundaryTests::badCounts);
        sentence("20", "how many", RunBoundaryTests::countsFromNone);
    }

    private static void badCounts() {
        for (int v : Checks.outside(4)) {
            refused("count(" + v + ")", RunBoundaryTests::echo, x -> x.count(v), BAD);
            refused("count(" + v + ") of a new object", Asked::new, x -> x.count(v), BAD);
        }
    }

    private static void countsFromNone() {
        Asked x = new Asked();
        int[] want = {4, 0, 0, 0};
        for (int round = 0; round < 3; round++) {
            for (int what = 0; what <= 3; what++) {
                due("count(" + what + ")", x.count(what), want[what] + round);
            }
            x.list(round == 0 ? 0 : 3 + round);
            x.number(1);
            x.function(0, 0, 0);
            x.input(1);
        }
        x.empty();
        due("count(3) when empty", x.count(3), 0);
    }

    private static void digests() {
        sentence("21", "h = 61; then h = 31 h + v", RunBoundaryTests::digestOfNew);
        sentence("21", "h wraps", RunBoundaryTests::digestWraps);
        sentence("21", "what each NODE wants, in order", RunBoundaryTests::digestOfWanted);
        sentence("21", "BODY (NONE)", RunBoundaryTests::digestOfBodies);
        sentence("21", "of nothing else", RunBoundaryTests::digestOfNothingElse);
    }

    private static long over(long h, int... row) {
        long g = h;
        for (int v : row) {
            g = 31 * g + v;
        }
        return g;
    }

    private static final int[] FIRST_TYPES = {0, -1, -1, 1, 1, -1, -1, 1, 2, -1, -1, 1, 3, -1, -1, 1};

    private static void digestOfNew() {
        due("digest()", new Asked().digest(), over(61, FIRST_TYPES));
    }

    private static void digestWraps() {
        Asked x = new Asked();
        long h = over(61, FIRST_TYPES);
        for (int n = 0; n < 200; n++) {
            int v = n % 2 == 0 ? MAX - n : MIN + n;
            x.number(v);
            h = over(h, 0, v);
            if (n % 40 == 39) {
                due("digest() with " + (n + 1) + " NODES", x.digest(), h);
            }
        }
        due("it is refused", x.number(1), FULL);
        due("digest() with all NODES", x.digest(), h);
    }

    private static void digestOfWanted() {
        Asked x = new Asked();
        long h = over(61, FIRST_TYPES);
        int[][] wants = {{-9}, {1}, {}, {0, 1}, {1, 0}, {1, 0, 2}, {0, 2}, {2}, {3}, {3}, {4, 5}, {5}, {6}, {7}};
        for (int kind = 0; kind < wants.length; kind++) {
            int[] w = wants[kind];
            x.node(kind, w.length > 0 ? w[0] : 77, w.length > 1 ? w[1] : 77, w.length > 2 ? w[2] : 77, 77);
            h = over(over(h, kind), w);
            due("digest() with kind " + kind, x.digest(), h);
        }
        int[][] calls = {{11, 2, NONE, NONE}, {3, 1, 2, NONE}, {0, 0, 1, 3}};
        for (int[] c : calls) {
            x.node(14, c[0], c[1], c[2], c[3]);
            h = over(over(h, 14), c);
            due("digest() with a CALL of " + c[0], x.digest(), h);
        }
    }

    private static void digestOfBodies() {
        Asked x = new Asked();
        x.argument();
        x.number(6);
        long h = over(61, FIRST_TYPES);
        h = over(h, 2, 0, 6);
        x.function(2, 3, 2);
        due("without a BODY", x.digest(), over(h, 2, 3, 2, NONE));
        x.function(0, 1, 0);
        due("two without a BODY", x.digest(), over(h, 2, 3, 2, NONE, 0, 1, 0, NONE));
        x.body(1, 0);
        due("one with NODE 0", x.digest(), over(h, 2, 3, 2, NONE, 0, 1, 0, 0));
        x.body(1, 1);
        due("with another", x.digest(), over(h, 2, 3, 2, NONE, 0, 1, 0, 1));
    }

    private static void digestOfNothingElse() {
        Asked x = echo();
        long h = x.digest();
        x.input(5);
        due("INPUT", x.digest(), h);
        x.run();
        x.runCopies();
        due("RUNS", x.digest(), h);
        x.empty();
        x.typeIn(0, 0);
        x.copies();
        due("what is asked", x.digest(), h);
        x.list(0);
        due("a TYPE is something", x.digest() == h ? 0 : 1, 1);
    }
}
