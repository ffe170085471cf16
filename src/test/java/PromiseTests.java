/** What each promise of the document asks, with answers worked out by hand. */
public final class PromiseTests {
    private static final int NONE = -1, BAD = -2, NO = -3, FULL = -4;
    private static final int MIN = Integer.MIN_VALUE, MAX = Integer.MAX_VALUE;
    private static int wrong = 0;

    private static void due(String what, long got, long want) {
        if (got != want) {
            wrong++;
            System.out.println(what + " answered " + got + ", due is " + want);
        }
    }

    public static void main(String[] args) {
        newObject();
        pairs();
        lists();
        types();
        nodes();
        functions();
        bodies();
        typesIn();
        typesOfCalls();
        wrongNodes();
        reaching();
        judging();
        regular();
        copying();
        copiesFull();
        copiesTooDeep();
        copyFacts();
        inputs();
        argumentsAndResults();
        wideValues();
        runs();
        outcomes();
        steps();
        links();
        openFunctions();
        latestRun();
        counts();
        digests();
        System.out.println(wrong == 0 ? "promises: all answers are as due" : wrong + " answers are not as due");
        if (wrong != 0) {
            System.exit(1);
        }
    }

    // ---- promise 1

    private static void newObject() {
        Asked x = new Asked();
        due("1 types", x.count(0), 4);
        due("1 nodes", x.count(1), 0);
        due("1 functions", x.count(2), 0);
        due("1 input", x.count(3), 0);
        due("1 judge", x.judge(), 1);
        due("1 copies", x.copies(), NO);
        due("1 told outcome", x.told(4), NONE);
        for (int what = 0; what <= 3; what++) {
            due("1 told " + what, x.told(what), 0);
        }
        for (int t = 0; t < 4; t++) {
            due("1 type " + t, x.type(t, 0), t);
        }
        due("1 no type 4", x.type(4, 0), BAD);
    }

    // ---- promises 2 to 4

    private static void pairs() {
        Asked x = new Asked();
        due("2 first", x.pair(0, 1), 4);
        due("2 other order", x.pair(1, 0), 5);
        due("2 like", x.pair(0, 1), 4);
        due("2 bad t", x.pair(6, 0), BAD);
        due("2 bad u", x.pair(0, 6), BAD);
        due("2 below", x.pair(-1, 0), BAD);
        due("2 far", x.pair(MAX, MIN), BAD);
        due("2 depth 3", x.pair(4, 5), 6);
        due("2 depth 4", x.pair(6, 0), 7);
        due("2 depth 5", x.pair(2, 7), 8);
        due("2 depth 6", x.pair(8, 0), NO);
        due("2 depth 6 behind", x.pair(0, 8), NO);
        due("2 nothing made", x.count(0), 9);
        due("2 bad first", x.pair(8, 9), BAD);
    }

    private static void lists() {
        Asked x = new Asked();
        due("3 first", x.list(2), 4);
        due("3 like", x.list(2), 4);
        due("3 depth 3", x.list(4), 5);
        due("3 depth 4", x.list(5), 6);
        due("3 depth 5", x.list(6), 7);
        due("3 depth 6", x.list(7), NO);
        due("3 pair over depth 5", x.pair(7, 0), NO);
        due("3 bad", x.list(8), BAD);
        due("3 below", x.list(-1), BAD);
        due("3 apart from pairs", x.pair(0, 0), 8);
        due("3 list of pair", x.list(8), 9);
    }

    private static void types() {
        Asked x = new Asked();
        due("4 (A, LIST TRUTH)", x.list(1), 4);
        due("4", x.pair(2, 4), 5);
        due("4", x.pair(0, 4), 6);
        due("4", x.list(6), 7);
        due("4", x.pair(7, 6), 8);
        due("4", x.pair(5, 3), 9);
        due("4", x.list(3), 10);
        int[][] want = {
            {0, NONE, NONE, 1, 1, 0}, {1, NONE, NONE, 1, 1, 0}, {2, NONE, NONE, 1, NONE, 1},
            {3, NONE, NONE, 1, NONE, 2}, {5, 1, NONE, 2, 1, 0}, {4, 2, 4, 3, NONE, 1},
            {4, 0, 4, 3, 2, 0}, {5, 6, NONE, 4, 1, 0}, {4, 7, 6, 5, 3, 0}, {4, 5, 3, 4, NONE, 3},
            {5, 3, NONE, 2, NONE, 2}};
        for (int t = 0; t < want.length; t++) {
            for (int what = 0; what < 6; what++) {
                due("4 type(" + t + ", " + what + ")", x.type(t, what), want[t][what]);
            }
        }
        due("4 no such type", x.type(11, 0), BAD);
        due("4 below", x.type(-1, 0), BAD);
        due("4 what", x.type(0, 6), BAD);
        due("4 what below", x.type(0, -1), BAD);
        x = new Asked();
        due("4 wide", x.pair(0, 0), 4);
        due("4 wide", x.pair(4, 4), 5);
        due("4 wide", x.pair(5, 5), 6);
        due("4 wide", x.pair(6, 6), 7);
        due("4 width 16", x.type(7, 4), 16);
        due("4 list of INT", x.list(0), 8);
        due("4 its depth", x.type(8, 3), 2);
        due("4 list of that", x.list(8), 9);
        due("4 its depth", x.type(9, 3), 3);
    }

    // ---- promises 5 to 7

    private static void nodes() {
        Asked x = new Asked();
        due("5 number", x.node(0, MIN, 99, 99, 99), 0);
        due("5 truth 0", x.node(1, 0, 99, -7, 99), 1);
        due("5 truth 1", x.node(1, 1, 0, 0, 0), 2);
        due("5 truth 2", x.node(1, 2, 0, 0, 0), BAD);
        due("5 truth -1", x.node(1, -1, 0, 0, 0), BAD);
        due("5 argument", x.node(2, -5, 99, 99, 99), 3);
        int[] parts = {0, 0, 0, 2, 2, 3, 2, 1, 1, 0, 2, 1, 1, 1};
        for (int kind = 3; kind <= 13; kind++) {
            if (kind == 9) {
                continue;
            }
            int had = x.count(1);
            due("5 part a", x.node(kind, had, 0, 0, 0), BAD);
            due("5 part a below", x.node(kind, -1, 0, 0, 0), BAD);
            if (parts[kind] > 1) {
                due("5 part b", x.node(kind, 0, had, 0, 0), BAD);
            }
            if (parts[kind] > 2) {
                due("5 part c", x.node(kind, 0, 0, had, 0), BAD);
            }
            due("5 kind " + kind, x.node(kind, 0, parts[kind] > 1 ? 0 : 777, parts[kind] > 2 ? 0 : -777, MAX), had);
        }
        due("5 nil of no type", x.node(9, 4, 0, 0, 0), BAD);
        due("5 nil below", x.node(9, -1, 0, 0, 0), BAD);
        due("5 nil", x.node(9, 3, -1, -1, -1), 14);
        due("5 call of a function to come", x.node(14, 11, 0, NONE, NONE), 15);
        due("5 call of 12", x.node(14, 12, 0, NONE, NONE), BAD);
        due("5 call of -1", x.node(14, -1, 0, NONE, NONE), BAD);
        due("5 call on no node", x.node(14, 0, 16, NONE, NONE), BAD);
        due("5 u alone", x.node(14, 0, 0, NONE, 0), BAD);
        due("5 t is no type", x.node(14, 0, 0, 4, NONE), BAD);
        due("5 t is below NONE", x.node(14, 0, 0, -2, NONE), BAD);
        due("5 u is no type", x.node(14, 0, 0, 0, 4), BAD);
        due("5 u is below NONE", x.node(14, 0, 0, 0, -2), BAD);
        due("5 t and u", x.node(14, 0, 0, 3, 2), 16);
        due("5 kind -1", x.node(-1, 0, 0, 0, 0), BAD);
        due("5 kind 15", x.node(15, 0, 0, 0, 0), BAD);
        int at = 0;
        for (int depth = 2; depth <= 12; depth++) {
            at = depth % 2 == 0 ? x.call(3, at, 0, NONE) : x.choose(0, 1, at);
            due("5 depth " + depth, at >= 0 ? 1 : 0, 1);
        }
        due("5 depth 13", x.on(7, at), NO);
        due("5 depth 13, second part", x.on(6, 0, at), NO);
        due("5 depth 13, third part", x.choose(0, 0, at), NO);
        due("5 depth 13, call", x.call(0, at, NONE, NONE), NO);
        due("5 deep ones that are not wanted", x.node(7, 0, at, at, at), x.count(1) - 1);
        due("5 deep ones that are not wanted", x.node(6, 0, 0, at, at), x.count(1) - 1);
        due("5 deep ones that are not wanted", x.node(9, at % 4, at, at, at), x.count(1) - 1);
        due("5 deep ones that are not wanted", x.node(0, at, at, at, at), x.count(1) - 1);
        due("5 bad before deep", x.choose(0, at, 500), BAD);
        while (x.count(1) < 200) {
            x.number(1);
        }
        due("5 full", x.number(1), FULL);
        due("5 deep before full", x.on(7, at), NO);
        due("5 bad before full", x.truth(2), BAD);
        due("5 still 200", x.count(1), 200);
    }

    private static void functions() {
        Asked x = new Asked();
        due("6 letters -1", x.function(-1, 0, 0), BAD);
        due("6 letters 3", x.function(3, 0, 0), BAD);
        due("6 argument", x.function(0, 4, 0), BAD);
        due("6 result", x.function(0, 0, -1), BAD);
        due("6 A without letters", x.function(0, 2, 0), BAD);
        due("6 B with one letter", x.function(1, 0, 3), BAD);
        x.pair(2, 3);
        due("6 B inside, one letter", x.function(1, 4, 0), BAD);
        due("6 none made", x.count(2), 0);
        due("6 without letters", x.function(0, 0, 1), 0);
        due("6 one letter", x.function(1, 2, 2), 1);
        due("6 two letters", x.function(2, 4, 3), 2);
        due("6 letters not in its types", x.function(2, 0, 0), 3);
        due("6 no body", x.wrong(0), NO);
        for (int f = 4; f < 12; f++) {
            due("6 function " + f, x.function(0, 0, 0), f);
        }
        due("6 full", x.function(0, 0, 0), FULL);
        due("6 bad before full", x.function(0, 2, 0), BAD);
        due("6 twelve", x.count(2), 12);
    }

    private static void bodies() {
        Asked x = new Asked();
        due("7 nothing there", x.body(0, 0), BAD);
        x.number(1);
        due("7 no function", x.body(0, 0), BAD);
        x.function(0, 0, 0);
        due("7 no node", x.body(0, 1), BAD);
        due("7 node below", x.body(0, -1), BAD);
        due("7 function below", x.body(-1, 0), BAD);
        due("7 not given", x.judge(), 2);
        due("7 given", x.body(0, 0), 1);
        due("7 right", x.judge(), 0);
        x.truth(1);
        due("7 another", x.body(0, 1), 1);
        due("7 not right", x.judge(), 3);
        due("7 back", x.body(0, 0), 1);
        due("7 right again", x.judge(), 0);
    }

    // ---- promises 8 and 9

    private static void typesIn() {
        Asked x = new Asked();
        int listA = x.list(2);
        int pairAB = x.pair(2, 3);
        int f = x.function(2, pairAB, 0);
        int n = x.number(5);
        int t = x.truth(0);
        int a = x.argument();
        due("8 number", x.typeIn(f, n), 0);
        due("8 truth", x.typeIn(f, t), 1);
        due("8 argument", x.typeIn(f, a), pairAB);
        due("8 add", x.typeIn(f, x.on(3, n, n)), 0);
        due("8 add a truth", x.typeIn(f, x.on(3, n, t)), NONE);
        due("8 less", x.typeIn(f, x.on(4, n, n)), 1);
        due("8 less of truths", x.typeIn(f, x.on(4, t, t)), NONE);
        due("8 if", x.typeIn(f, x.choose(t, a, a)), pairAB);
        due("8 if on a number", x.typeIn(f, x.choose(n, a, a)), NONE);
        due("8 if not alike", x.typeIn(f, x.choose(t, a, n)), NONE);
        int first = x.on(7, a);
        int second = x.on(8, a);
        due("8 first", x.typeIn(f, first), 2);
        due("8 second", x.typeIn(f, second), 3);
        due("8 first of a number", x.typeIn(f, x.on(7, n)), NONE);
        due("8 second of a truth", x.typeIn(f, x.on(8, t)), NONE);
        due("8 unnumbered", x.typeIn(f, x.on(6, second, first)), -5);
        due("8 pair", x.typeIn(f, x.on(6, first, second)), pairAB);
        int nil = x.on(9, 2);
        due("8 nil", x.typeIn(f, nil), listA);
        int link = x.on(10, first, nil);
        due("8 link", x.typeIn(f, link), listA);
        due("8 link of another", x.typeIn(f, x.on(10, second, nil)), NONE);
        due("8 link to no list", x.typeIn(f, x.on(10, first, first)), NONE);
        due("8 empty", x.typeIn(f, x.on(11, link)), 1);
        due("8 head", x.typeIn(f, x.on(12, link)), 2);
        due("8 tail", x.typeIn(f, x.on(13, link)), listA);
        due("8 empty of a pair", x.typeIn(f, x.on(11, a)), NONE);
        due("8 head of a pair", x.typeIn(f, x.on(12, a)), NONE);
        due("8 tail of a number", x.typeIn(f, x.on(13, n)), NONE);
        due("8 a part is wrong", x.typeIn(f, x.on(6, n, x.on(7, n))), NONE);
        int bad = x.on(8, n);
        due("8 wrong parts are not alike", x.typeIn(f, x.choose(t, bad, bad)), NONE);
        int g = x.function(1, listA, 2);
        due("8 nil of a letter it has not", x.typeIn(g, x.on(9, 3)), NONE);
        due("8 in another function", x.typeIn(g, a), listA);
        due("8 nil in another", x.typeIn(g, nil), listA);
        int h = x.function(0, 0, 0);
        due("8 nil of A without letters", x.typeIn(h, nil), NONE);
        due("8 bad function", x.typeIn(3, n), BAD);
        due("8 bad function below", x.typeIn(-1, n), BAD);
        due("8 bad node", x.typeIn(0, x.count(1)), BAD);
        due("8 bad node below", x.typeIn(0, -1), BAD);
        deepTypesIn();
    }

    private static void deepTypesIn() {
        Asked x = new Asked();
        int t = 0;
        for (int depth = 2; depth <= 5; depth++) {
            t = x.list(t);
        }
        int f = x.function(0, t, 0);
        int a = x.argument();
        int n = x.number(1);
        due("8 depth 5", x.typeIn(f, a), t);
        due("8 pair too deep", x.typeIn(f, x.on(6, a, n)), NONE);
        due("8 pair too deep behind", x.typeIn(f, x.on(6, n, a)), NONE);
        due("8 nil too deep", x.typeIn(f, x.on(9, t)), NONE);
        due("8 nil as deep as can be", x.typeIn(f, x.on(9, x.type(t, 1))), t);
        due("8 tail", x.typeIn(f, x.on(13, a)), t);
        int p = x.on(6, n, n);
        due("8 depth 2 unnumbered", x.typeIn(f, p), -5);
        p = x.on(6, p, p);
        p = x.on(6, p, p);
        p = x.on(6, p, p);
        due("8 depth 5 unnumbered", x.typeIn(f, p), -5);
        due("8 depth 6", x.typeIn(f, x.on(6, p, p)), NONE);
        due("8 a part of it", x.typeIn(f, x.on(7, p)), -5);
        int pair = x.pair(0, 0);
        pair = x.pair(pair, pair);
        pair = x.pair(pair, pair);
        due("8 now numbered", x.typeIn(f, x.on(8, p)), pair);
    }

    private static void typesOfCalls() {
        Asked x = new Asked();
        int listA = x.list(2);
        int pairAB = x.pair(2, 3);
        int pairBA = x.pair(3, 2);
        int n = x.number(5);
        int t = x.truth(1);
        int nt = x.on(6, n, t);
        x.function(0, 0, 0);
        int early = x.call(1, nt, 0, 1);
        due("8 call of one that is not there", x.typeIn(0, early), NONE);
        x.function(2, pairAB, pairBA);
        due("8 call with two", x.typeIn(0, early), -5);
        int swapped = x.pair(1, 0);
        due("8 call with two, numbered", x.typeIn(0, early), swapped);
        due("8 call, other way round", x.typeIn(0, x.call(1, nt, 1, 0)), NONE);
        due("8 call with one", x.typeIn(0, x.call(1, nt, 0, NONE)), NONE);
        due("8 call with none", x.typeIn(0, x.call(1, nt, NONE, NONE)), NONE);
        int a = x.argument();
        int ownSwap = x.call(1, a, 2, 3);
        due("8 call with own letters", x.typeIn(1, ownSwap), pairBA);
        int back = x.call(1, ownSwap, 3, 2);
        due("8 letters at once", x.typeIn(1, back), pairAB);
        due("8 letters that 0 has not", x.typeIn(0, ownSwap), NONE);
        x.function(1, 2, listA);
        due("8 with one", x.typeIn(0, x.call(2, n, 0, NONE)), -5);
        int listInt = x.list(0);
        due("8 with one, numbered", x.typeIn(0, x.call(2, n, 0, NONE)), listInt);
        due("8 B is not the caller's", x.typeIn(2, x.call(2, x.on(8, a), 3, NONE)), NONE);
        due("8 B is the caller's", x.typeIn(1, x.call(2, x.on(8, a), 3, NONE)), -5);
        due("8 argument is wrong", x.typeIn(0, x.call(2, x.on(7, n), 0, NONE)), NONE);
        x.function(2, 2, 2);
        due("8 unused letter is not the caller's", x.typeIn(0, x.call(3, n, 0, 3)), NONE);
        due("8 unused letter", x.typeIn(0, x.call(3, n, 0, 1)), 0);
        due("8 letters that are in no type", x.typeIn(0, x.call(x.function(1, 0, 0), n, NONE, NONE)), NONE);
        due("8 letters that are in no type", x.typeIn(0, x.call(4, n, 0, 0)), NONE);
        due("8 letters that are in no type", x.typeIn(0, x.call(4, n, 1, NONE)), 0);
        due("8 types for no letters", x.typeIn(0, x.call(0, n, 0, NONE)), NONE);
        int deep = x.list(x.list(x.list(listInt)));
        int takesList = x.function(1, listA, 0);
        due("8 argument wrong, and too deep", x.typeIn(0, x.call(takesList, x.on(7, n), deep, NONE)), NONE);
        int f = x.function(0, deep, 0);
        due("8 result too deep", x.typeIn(f, x.call(2, a, deep, NONE)), NONE);
        due("8 result not too deep", x.typeIn(f, x.call(2, x.on(12, a), x.type(deep, 1), NONE)), deep);
    }

    private static void wrongNodes() {
        Asked x = new Asked();
        due("9 bad", x.wrong(0), BAD);
        x.function(0, 0, 0);
        due("9 bad", x.wrong(1), BAD);
        due("9 below", x.wrong(-1), BAD);
        due("9 no body", x.wrong(0), NO);
        int n = x.number(1);
        int outside = x.on(7, n);
        int t = x.truth(1);
        int right = x.on(3, n, n);
        int low = x.on(3, n, t);
        int high = x.on(4, t, n);
        int over = x.on(6, high, low);
        x.body(0, over);
        due("9 the least", x.wrong(0), low);
        x.body(0, x.on(6, right, high));
        due("9 the other", x.wrong(0), high);
        x.body(0, right);
        due("9 none", x.wrong(0), NONE);
        x.body(0, t);
        due("9 not the result, but not wrong", x.wrong(0), NONE);
        x.body(0, outside);
        due("9 itself", x.wrong(0), outside);
        int nil = x.on(9, 2);
        x.body(0, x.choose(x.on(11, nil), n, n));
        due("9 without parts", x.wrong(0), nil);
        int later = x.call(1, n, NONE, NONE);
        x.body(0, later);
        due("9 call of none", x.wrong(0), later);
        Asked y = new Asked();
        y.on(9, 2);
        y.function(0, 0, 0);
        y.body(0, y.number(1));
        due("9 the first node is not in it", y.wrong(0), NONE);
        x.function(0, 0, 0);
        due("9 call of one", x.wrong(0), NONE);
    }

    // ---- promises 10 and 11

    private static void reaching() {
        Asked x = new Asked();
        for (int f = 0; f < 4; f++) {
            x.function(0, 0, 0);
        }
        int n = x.number(1);
        due("10 nothing", x.reaches(0, 1), 0);
        int deep = x.call(1, n, NONE, NONE);
        for (int i = 0; i < 5; i++) {
            deep = x.on(3, n, deep);
        }
        x.body(0, deep);
        due("10 uses", x.reaches(0, 1), 1);
        due("10 not the other way", x.reaches(1, 0), 0);
        x.body(1, x.call(2, n, NONE, NONE));
        due("10 over one", x.reaches(0, 2), 1);
        due("10 not itself", x.reaches(0, 0), 0);
        x.body(2, x.call(0, x.call(3, n, NONE, NONE), NONE, NONE));
        due("10 round", x.reaches(0, 0), 1);
        due("10 round", x.reaches(1, 0), 1);
        due("10 in an argument", x.reaches(0, 3), 1);
        due("10 no body", x.reaches(3, 0), 0);
        due("10 bad", x.reaches(0, 4), BAD);
        due("10 bad", x.reaches(4, 0), BAD);
        due("10 below", x.reaches(-1, 0), BAD);
        due("10 below", x.reaches(0, -1), BAD);
        x.body(1, n);
        due("10 no more", x.reaches(0, 2), 0);
        x.body(0, x.call(9, n, NONE, NONE));
        due("10 a wrong call counts, one of none is no matter", x.reaches(0, 1), 0);
    }

    private static void judging() {
        Asked x = new Asked();
        due("11 no function", x.judge(), 1);
        x.function(1, 2, 2);
        int a = x.argument();
        x.body(0, a);
        due("11 letters", x.judge(), 1);
        due("11 run", x.run(), NO);
        due("11 run of copies", x.runCopies(), NO);
        x = new Asked();
        x.function(0, 0, 0);
        due("11 no body", x.judge(), 2);
        int n = x.number(1);
        int t = x.truth(1);
        x.body(0, t);
        due("11 not right", x.judge(), 3);
        x.body(0, n);
        due("11 right", x.judge(), 0);
        int later = x.call(1, n, NONE, NONE);
        x.body(0, x.on(3, t, later));
        due("11 one is not there, ahead of not right", x.judge(), 2);
        x.body(0, later);
        x.function(0, 0, 0);
        due("11 one has no body", x.judge(), 2);
        x.body(1, t);
        due("11 one is not right", x.judge(), 3);
        x.body(1, n);
        due("11 all are", x.judge(), 0);
        x.function(0, 0, 0);
        due("11 one that is not reached has none", x.judge(), 0);
        x.body(2, t);
        due("11 one that is not reached is not right", x.judge(), 0);
        x.body(1, x.call(2, n, NONE, NONE));
        due("11 now it is reached", x.judge(), 3);
    }

    private static void regular() {
        Asked x = new Asked();
        x.function(0, 0, 0);
        x.function(1, 0, 0);
        x.function(2, 0, 0);
        int a = x.argument();
        x.body(0, x.call(1, a, 1, NONE));
        int oneHandsOn = x.call(1, a, 2, NONE);
        x.body(1, oneHandsOn);
        due("11 hands on", x.judge(), 0);
        x.body(1, x.call(1, a, 0, NONE));
        due("11 does not", x.judge(), 4);
        int twoHandsOn = x.call(2, a, 2, 3);
        int twoSwaps = x.call(2, a, 3, 2);
        x.body(0, x.call(2, a, 0, 1));
        x.body(2, twoHandsOn);
        due("11 hands on both, 1 is not reached", x.judge(), 0);
        x.body(2, twoSwaps);
        due("11 swaps", x.judge(), 4);
        x.body(2, x.call(2, a, 2, 2));
        due("11 second is not B", x.judge(), 4);
        x.body(2, oneHandsOn);
        x.body(1, a);
        due("11 fewer, and not back", x.judge(), 0);
        x.body(1, x.call(2, a, 2, 2));
        due("11 back with more letters", x.judge(), 4);
        x.body(2, x.call(1, a, 3, NONE));
        x.body(1, a);
        due("11 any types where it does not come back", x.judge(), 0);
        x.body(1, x.call(0, a, NONE, NONE));
        due("11 back to 0, which has none", x.judge(), 4);
        x.body(0, x.call(0, a, NONE, NONE));
        due("11 0 calls itself", x.judge(), 0);
        x.function(0, 0, 0);
        x.body(0, x.call(3, a, NONE, NONE));
        x.body(3, x.call(0, a, NONE, NONE));
        due("11 round without letters", x.judge(), 0);
        x.body(3, x.on(3, a, x.call(1, a, 0, NONE)));
        due("11 round over one with letters", x.judge(), 4);
        x.body(0, x.call(1, a, 0, NONE));
        due("11 round, 0 gives a type", x.judge(), 4);
    }

    // ---- promises 12 and 13

    private static void copying() {
        Asked x = new Asked();
        due("12 no program", x.copies(), NO);
        int listA = x.list(2);
        int listInt = x.list(0);
        x.function(0, 0, 0);
        x.function(1, 2, 2);
        x.function(1, listA, 2);
        int a = x.argument();
        x.body(1, a);
        x.body(2, x.call(1, x.on(12, a), 2, NONE));
        int n = x.number(3);
        int headOf = x.call(2, x.on(10, n, x.on(9, 0)), 0, NONE);
        int same = x.call(1, x.truth(1), 1, NONE);
        x.body(0, x.choose(same, headOf, headOf));
        due("12 copies", x.copies(), 4);
        int[][] want = {{0, NONE, NONE}, {1, 1, NONE}, {2, 0, NONE}, {1, 0, NONE}};
        for (int i = 0; i < want.length; i++) {
            for (int what = 0; what < 3; what++) {
                due("13 copy(" + i + ", " + what + ")", x.copy(i, what), want[i][what]);
            }
        }
        due("13 argument", x.copy(2, 5), listInt);
        x.body(0, headOf);
        due("12 fewer", x.copies(), 3);
        due("13 in order", x.copy(1, 0), 2);
        x.body(0, x.call(1, x.call(2, x.on(9, 0), 0, NONE), 0, NONE));
        due("12 like ones once", x.copies(), 3);
        due("13 the argument's call first", x.copy(1, 0), 2);
        due("13 then the other", x.copy(2, 0), 1);
        x.body(0, x.call(0, n, NONE, NONE));
        due("12 itself", x.copies(), 1);
        x.body(0, x.truth(0));
        due("12 not right", x.copies(), NO);
        due("13 not right", x.copy(0, 0), NONE);
    }

    /** FUNCTION 0 with so many calls of a function with two letters, no two at like types. */
    private static Asked manyCalls(int calls) {
        Asked x = new Asked();
        for (int t = 0; t < 2; t++) {
            for (int u = 0; u < 2; u++) {
                x.pair(t, u);
            }
        }
        x.list(0);
        x.list(1);
        x.function(0, 0, 0);
        x.function(2, 0, 0);
        int a = x.argument();
        x.body(1, a);
        int[] row = new int[calls];
        int[] at = {0, 1, 4, 5, 6, 7, 8, 9};
        for (int i = 0; i < calls; i++) {
            row[i] = x.call(1, a, at[i / 8], at[i % 8]);
        }
        int size = calls;
        while (size > 1) {
            int half = 0;
            for (int i = 0; i < size; i += 2) {
                row[half++] = i + 1 < size ? x.on(3, row[i], row[i + 1]) : row[i];
            }
            size = half;
        }
        x.body(0, row[0]);
        due("12 right", x.judge(), 0);
        return x;
    }

    private static void copiesFull() {
        Asked x = manyCalls(59);
        due("12 sixty", x.copies(), 60);
        due("13 the last one", x.copy(59, 0), 1);
        due("13 its A", x.copy(59, 1), 9);
        due("13 its B", x.copy(59, 2), 4);
        due("13 no more", x.copy(60, 0), NONE);
        due("17 sixty run", x.runCopies(), 0);
        x = manyCalls(60);
        due("12 sixty-one", x.copies(), FULL);
        due("13 then none", x.copy(0, 0), NONE);
        due("13 bad all the same", x.copy(0, 6), BAD);
        due("17 full", x.runCopies(), FULL);
        due("16 runs", x.run(), 0);
        due("16 told", x.told(3), 2);
        due("17 full changes nothing", x.runCopies(), FULL);
        due("19 told", x.told(3), 2);
    }

    private static void copiesTooDeep() {
        for (int levels = 1; levels <= 3; levels++) {
            Asked x = new Asked();
            int listA = x.list(2);
            int deep = x.list(x.list(x.list(0)));
            x.function(0, 0, 0);
            x.function(1, 0, 0);
            x.function(1, 0, 0);
            x.function(1, 0, 0);
            int a = x.argument();
            x.body(3, a);
            x.body(2, x.call(3, a, levels > 2 ? listA : 2, NONE));
            x.body(1, x.call(2, a, listA, NONE));
            x.body(0, x.call(1, a, levels > 1 ? deep : 0, NONE));
            due("12 letter, levels " + levels, x.copies(), levels > 2 ? FULL : 4);
        }
        Asked x = new Asked();
        int listA = x.list(2);
        int deep = x.list(x.list(x.list(x.list(0))));
        x.function(0, 0, 0);
        x.function(1, 0, 0);
        int a = x.argument();
        int nilA = x.on(9, 2);
        x.body(0, x.call(1, a, deep, NONE));
        x.body(1, a);
        due("12 as deep as can be", x.copies(), 2);
        due("13 its type", x.copy(1, 1), deep);
        x.body(1, x.choose(x.on(11, nilA), a, a));
        due("12 a node too deep", x.copies(), FULL);
        due("11 right all the same", x.judge(), 0);
        int pairA = x.pair(2, 2);
        x.function(1, listA, 0);
        int g = x.function(1, 0, pairA);
        due("6 another", g, 3);
        x.body(1, a);
        due("12 others do not matter", x.copies(), 2);
    }

    private static void copyFacts() {
        Asked x = new Asked();
        int pairAB = x.pair(2, 3);
        int pairBA = x.pair(3, 2);
        int intTruth = x.pair(0, 1);
        int three = x.pair(0, intTruth);
        x.function(0, three, 1);
        x.function(2, pairAB, pairBA);
        x.function(1, 2, 2);
        int a = x.argument();
        x.body(1, x.on(6, x.on(8, a), x.on(7, a)));
        x.body(2, a);
        int swapped = x.call(1, a, 0, intTruth);
        x.body(0, x.call(2, x.on(8, x.on(7, swapped)), 1, NONE));
        due("12 three", x.copies(), 3);
        int[][] want = {{0, NONE, NONE, 3, 1, three}, {1, 0, intTruth, 3, 3, three}, {2, 1, NONE, 1, 1, 1}};
        for (int i = 0; i < 3; i++) {
            for (int what = 0; what < 6; what++) {
                due("13 copy(" + i + ", " + what + ")", x.copy(i, what), want[i][what]);
            }
        }
        due("13 too far", x.copy(3, 0), NONE);
        due("13 below", x.copy(-1, 0), NONE);
        due("13 what", x.copy(0, 6), BAD);
        due("13 what below", x.copy(0, -1), BAD);
        due("13 what first", x.copy(MAX, MIN), BAD);
        x = new Asked();
        int listA = x.list(2);
        x.pair(2, 2);
        x.function(0, 0, 0);
        x.function(1, 4, 0);
        x.function(1, 2, 0);
        a = x.argument();
        int n = x.number(7);
        x.body(1, x.call(2, a, listA, NONE));
        x.body(2, n);
        x.body(0, x.call(1, x.on(9, 0), 0, NONE));
        due("12", x.copies(), 3);
        due("13 A is not numbered", x.copy(2, 1), -5);
        due("13 argument is not numbered", x.copy(2, 5), -5);
        due("13 nor here", x.copy(1, 5), -5);
        int listInt = x.list(0);
        due("13 now A is", x.copy(2, 1), listInt);
        due("13 now the argument is", x.copy(1, 5), listInt);
    }

    // ---- promises 14 and 15

    private static void inputs() {
        Asked x = new Asked();
        due("15 empty already", x.empty(), 0);
        for (int i = 1; i <= 16; i++) {
            due("14 " + i, x.input(i * 1000), i);
        }
        due("14 full", x.input(1), FULL);
        due("14 sixteen", x.count(3), 16);
        due("15 sixteen", x.empty(), 16);
        due("15 none", x.count(3), 0);
        due("14 again", x.input(MIN), 1);
        x.function(0, 0, 0);
        x.body(0, x.argument());
        due("16", x.run(), 0);
        due("18 the new one", x.result(0), MIN);
        due("15 one", x.empty(), 1);
        due("16", x.run(), 0);
        due("18 the row has ended", x.result(0), 0);
    }

    // ---- promises 16 to 19

    /** The identity on a type, given a row: what both runs tell. */
    private static void echo(Asked x, int type, int[] given, int[] want) {
        Asked y = x;
        y.empty();
        for (int v : given) {
            y.input(v);
        }
        for (int turn = 0; turn < 2; turn++) {
            due("outcome", turn == 0 ? y.run() : y.runCopies(), 0);
            due("19 how many", y.told(0), Math.min(100, want.length));
            for (int i = 0; i < want.length && i < 100; i++) {
                due("18 turn " + turn + ", entry " + i, y.result(i), want[i]);
            }
            due("18 behind it", y.result(want.length), 0);
            due("18 ahead of it", y.result(-1), 0);
            due("19 steps", y.told(1), 1);
            due("19 links", y.told(2), 0);
            due("19 open", y.told(3), 1);
        }
    }

    private static void argumentsAndResults() {
        Asked x = new Asked();
        int list = x.list(0);
        int lists = x.list(list);
        int truths = x.list(1);
        int pair = x.pair(1, list);
        int pairs = x.list(x.pair(pair, 0));
        int[] types = {0, 1, list, lists, truths, pair, pairs};
        int[][][] rows = {
            {{MIN, 5}, {MIN}},
            {{-7}, {1}}, {{0, 1}, {0}}, {{}, {0}},
            {{3, 9, 8, 7, 6}, {3, 9, 8, 7}}, {{-2, 5}, {0}}, {{5, 1, 2, 3, 4, 5, 6}, {4, 1, 2, 3, 4}},
            {{MAX, 1}, {4, 1, 0, 0, 0}}, {{MIN}, {0}},
            {{2, 1, 5, 2, 6, 7}, {2, 1, 5, 2, 6, 7}}, {{4, 2, 1, 2, 9, 3}, {4, 2, 1, 2, 4, 3, 0, 0, 0, 0, 0}},
            {{2, -1, 0}, {2, 1, 0}},
            {{7, 2, 1}, {1, 2, 1, 0}},
            {{2, 1, 1, 5, 6, 0, 0, -4}, {2, 1, 1, 5, 6, 0, 0, -4}}};
        int[] typeOfRow = {0, 1, 1, 1, 2, 2, 2, 2, 2, 3, 3, 4, 5, 6};
        for (int i = 0; i < rows.length; i++) {
            Asked y = new Asked();
            y.list(0);
            y.list(4);
            y.list(1);
            y.pair(1, 4);
            y.list(y.pair(7, 0));
            y.function(0, types[typeOfRow[i]], types[typeOfRow[i]]);
            y.body(0, y.argument());
            echo(y, types[typeOfRow[i]], rows[i][0], rows[i][1]);
        }
        wideArgument();
    }

    /** Lists of lists of pairs of four: 16 in the row, far more in the argument. */
    private static void wideArgument() {
        Asked x = new Asked();
        int four = x.pair(x.pair(0, 0), x.pair(0, 0));
        int type = x.list(x.list(four));
        x.function(0, type, type);
        x.body(0, x.argument());
        int[] want = new int[69];
        want[0] = 4;
        for (int i = 0; i < 4; i++) {
            want[1 + i * 17] = 4;
        }
        for (int i = 0; i < 15; i++) {
            want[i + 1] = 4;
        }
        int[] given = new int[16];
        for (int i = 0; i < 16; i++) {
            given[i] = 4;
        }
        // The row ends within the first list's fourth pair: the other three lists have none.
        int[] all = new int[1 + 1 + 16 + 3];
        for (int i = 0; i < 16; i++) {
            all[i] = 4;
        }
        echo(x, type, given, all);
    }

    /** Gives the input, and looks at the whole result of both runs. */
    private static void bothTell(Asked x, String name, int... want) {
        for (int turn = 0; turn < 2; turn++) {
            due(name + ", outcome", turn == 0 ? x.run() : x.runCopies(), 0);
            due(name + ", how many", x.told(0), want.length);
            for (int i = 0; i < want.length; i++) {
                due(name + ", turn " + turn + ", entry " + i, x.result(i), want[i]);
            }
        }
    }

    private static void wideValues() {
        Asked x = new Asked();
        int three = x.pair(0, x.pair(0, 1));
        int two = x.pair(0, 0);
        int twos = x.list(two);
        int start = x.pair(three, twos);
        int pairAB = x.pair(2, 3);
        int pairBA = x.pair(3, 2);
        int end = x.pair(twos, three);
        x.function(0, start, end);
        x.function(2, pairAB, pairBA);
        x.function(0, start, x.pair(x.pair(0, 1), three));
        for (int v : new int[] {11, 12, 1, 2, 21, 22, 31, 32}) {
            x.input(v);
        }
        int a = x.argument();
        int first = x.on(7, a);
        int second = x.on(8, a);
        x.body(1, x.on(6, second, first));
        x.body(0, x.call(1, a, three, twos));
        bothTell(x, "swapped at wide types", 2, 21, 22, 31, 32, 11, 12, 1);
        int there = x.call(1, a, three, twos);
        int back = x.call(1, there, twos, three);
        x.body(0, x.call(1, back, three, twos));
        bothTell(x, "and back, and again", 2, 21, 22, 31, 32, 11, 12, 1);
        int head = x.on(12, second);
        int turned = x.on(6, x.on(8, head), x.on(7, head));
        int links = x.on(10, turned, x.on(13, second));
        x.body(0, x.on(6, x.on(10, head, links), first));
        bothTell(x, "links of wide values", 3, 21, 22, 22, 21, 31, 32, 11, 12, 1);
        int made = x.on(6, x.on(7, x.on(12, x.on(13, second))), x.on(8, first));
        x.body(0, x.on(6, second, made));
        bothTell(x, "parts of parts", 2, 21, 22, 31, 32, 31, 12, 1);
        int chosen = x.choose(x.on(8, x.on(8, made)), made, first);
        x.body(0, x.on(6, x.on(9, two), chosen));
        bothTell(x, "chosen", 0, 31, 12, 1);
        x.body(2, x.on(6, x.on(8, first), made));
        int called = x.call(2, a, NONE, NONE);
        x.body(0, x.on(6, x.on(10, x.on(7, x.on(6, x.on(6, x.number(5), x.number(6)), called)), second), x.on(8, called)));
        bothTell(x, "parts of what is called", 3, 5, 6, 21, 22, 31, 32, 31, 12, 1);
        sixteenCells();
    }

    private static void sixteenCells() {
        Asked y = new Asked();
        int pairII = y.pair(0, 0);
        int four = y.pair(pairII, pairII);
        int eight = y.pair(four, four);
        int sixteen = y.pair(eight, eight);
        y.function(0, 0, sixteen);
        y.function(1, 2, y.pair(2, 2));
        int a = y.argument();
        y.body(1, y.on(6, a, a));
        int d = y.call(1, a, 0, NONE);
        d = y.on(6, y.on(7, d), y.on(3, y.number(1), y.on(8, d)));
        d = y.call(1, y.call(1, y.call(1, d, pairII, NONE), four, NONE), eight, NONE);
        y.body(0, d);
        y.input(8);
        due("12 copies at each width", y.copies(), 5);
        due("13 widths", y.copy(2, 3) * 100 + y.copy(2, 4), 204);
        due("13 widths", y.copy(4, 3) * 100 + y.copy(4, 4), 816);
        bothTell(y, "sixteen cells", 8, 9, 8, 9, 8, 9, 8, 9, 8, 9, 8, 9, 8, 9, 8, 9);
    }

    private static void runs() {
        Asked x = new Asked();
        int pair = x.pair(0, 0);
        x.function(0, pair, 0);
        int a = x.argument();
        int sum = x.on(3, x.on(7, a), x.on(8, a));
        x.body(0, sum);
        x.input(MAX);
        x.input(2);
        both(x, 0, MIN + 1, 5, 0, 1);
        int less = x.on(4, x.on(7, a), x.on(8, a));
        x.body(0, x.choose(less, x.number(1), x.number(2)));
        both(x, 0, 2, 7, 0, 1);
        x.empty();
        x.input(MIN);
        x.input(MAX);
        both(x, 0, 1, 7, 0, 1);
        x.empty();
        both(x, 0, 2, 7, 0, 1);
        int made = 0;
        for (int i = 0; i < 200; i++) {
            made += x.run() == 0 ? 1 : 0;
        }
        due("16 160 in all", made, 156);
        due("16 full", x.run(), FULL);
        due("17 goes on", x.runCopies(), 0);
        x.body(0, x.truth(1));
        due("16 NO is ahead of FULL", x.run(), NO);
        x.body(0, x.number(4));
        due("16 still full", x.run(), FULL);
        due("17 and goes on", x.runCopies(), 0);
        due("18 its result", x.result(0), 4);
        Asked y = new Asked();
        for (int i = 0; i < 200; i++) {
            due("16 refused", y.run(), NO);
        }
        y.function(0, 0, 0);
        y.body(0, y.number(8));
        due("16 refused ones do not count", y.run(), 0);
    }

    private static void both(Asked x, int outcome, int result, int steps, int links, int open) {
        for (int turn = 0; turn < 2; turn++) {
            String name = turn == 0 ? "16 run, " : "17 run of copies, ";
            due(name + "outcome", turn == 0 ? x.run() : x.runCopies(), outcome);
            due(name + "outcome told", x.told(4), outcome);
            due(name + "result", x.result(0), result);
            due(name + "steps", x.told(1), steps);
            due(name + "links", x.told(2), links);
            due(name + "open", x.told(3), open);
            due(name + "how many", x.told(0) > 0 ? 1 : 0, outcome == 0 ? 1 : 0);
        }
    }

    private static void outcomes() {
        Asked x = new Asked();
        int list = x.list(0);
        int pair = x.pair(0, list);
        x.function(0, pair, 0);
        int a = x.argument();
        int tail = x.on(8, a);
        int head = x.on(12, tail);
        x.body(0, x.on(3, x.on(7, a), head));
        both(x, 1, 0, 6, 0, 1);
        x.input(30);
        x.input(1);
        x.input(12);
        both(x, 0, 42, 6, 0, 1);
        int tailTail = x.on(13, x.on(13, tail));
        x.body(0, x.choose(x.on(11, tailTail), head, head));
        both(x, 1, 0, 6, 0, 1);
        int one = x.on(13, tail);
        x.body(0, x.choose(x.on(11, one), head, x.on(12, one)));
        both(x, 0, 12, 8, 0, 1);
        due("19 bad", x.told(5), BAD);
        due("19 bad below", x.told(-1), BAD);
        // Left to right: a LINK is made ahead of the HEAD that fails, none behind it.
        int made = x.on(12, x.on(10, x.number(1), x.on(9, 0)));
        int fails = x.on(12, x.on(9, 0));
        x.body(0, x.on(3, made, fails));
        both(x, 1, 0, 7, 1, 1);
        x.body(0, x.on(3, fails, made));
        both(x, 1, 0, 3, 0, 1);
    }

    private static int sumOf(Asked x, int levels) {
        int n = x.number(1);
        for (int i = 1; i < levels; i++) {
            n = x.on(3, n, n);
        }
        return n;
    }

    private static void steps() {
        Asked x = new Asked();
        x.function(0, 0, 0);
        int three = sumOf(x, 2);
        int fifteen = sumOf(x, 4);
        int sixtyThree = sumOf(x, 6);
        int most = sumOf(x, 9);
        int eight = x.on(7, x.on(6, three, three));
        int nine = x.choose(x.truth(0), three, sumOf(x, 3));
        x.body(0, x.on(3, most, x.on(3, sixtyThree, x.on(3, fifteen, eight))));
        both(x, 0, 256 + 32 + 8 + 2, 600, 0, 1);
        x.body(0, x.on(3, most, x.on(3, sixtyThree, x.on(3, fifteen, nine))));
        both(x, 2, 0, 601, 0, 1);
        due("19 none told", x.told(0), 0);
        x.body(0, sumOf(x, 12));
        both(x, 2, 0, 601, 0, 1);
    }

    private static void links() {
        Asked x = new Asked();
        int list = x.list(0);
        x.function(0, list, list);
        x.function(0, list, list);
        int a = x.argument();
        int chain = a;
        for (int i = 0; i < 10; i++) {
            chain = x.on(10, x.number(i), chain);
        }
        x.body(1, chain);
        int calls = a;
        for (int i = 0; i < 10; i++) {
            calls = x.call(1, calls, NONE, NONE);
        }
        x.body(0, calls);
        x.input(2);
        x.input(50);
        x.input(60);
        for (int turn = 0; turn < 2; turn++) {
            due("100 links", turn == 0 ? x.run() : x.runCopies(), 0);
            due("19 the first 100", x.told(0), 100);
            due("18 how many are linked", x.result(0), 102);
            due("18 then these", x.result(1), 9);
            due("18", x.result(99), 1);
            due("18 no more", x.result(100), 0);
            due("19 links", x.told(2), 100);
            due("19 steps", x.told(1), 221);
            due("19 open", x.told(3), 2);
        }
        x.body(0, x.on(10, x.number(5), calls));
        both(x, 4, 0, 223, 101, 2);
        // The parts of a 101st LINK are worked ahead of it.
        int fails = x.on(12, x.on(9, 0));
        x.body(0, x.on(10, fails, calls));
        both(x, 1, 0, 3, 0, 1);
    }

    private static void openFunctions() {
        Asked x = new Asked();
        x.function(0, 0, 0);
        x.function(1, 0, 0);
        int a = x.argument();
        int down = x.call(1, x.on(3, a, x.number(-1)), 2, NONE);
        x.body(1, x.choose(x.on(4, a, x.number(1)), x.number(77), down));
        x.body(0, x.call(1, a, 1, NONE));
        x.input(28);
        both(x, 0, 77, 2 + 28 * 8 + 5, 0, 30);
        x.empty();
        x.input(29);
        both(x, 3, 0, 2 + 29 * 8, 0, 30);
        x.empty();
        both(x, 0, 77, 7, 0, 2);
        // A CALL's argument is worked ahead of it, at 30 open too.
        int list = x.list(0);
        int fails = x.call(1, x.on(12, x.on(9, 0)), 2, NONE);
        x.body(1, x.choose(x.on(4, a, x.number(1)), fails, down));
        x.input(28);
        both(x, 1, 0, 2 + 28 * 8 + 4 + 3, 0, 30);
        due("a list", list, 4);
    }

    private static void latestRun() {
        Asked x = new Asked();
        due("18 before any", x.result(0), 0);
        x.function(0, 0, 0);
        int a = x.argument();
        x.body(0, x.on(3, a, a));
        x.input(4);
        due("16", x.run(), 0);
        due("18", x.result(0), 8);
        x.body(0, x.on(7, a));
        due("16 refused", x.run(), NO);
        due("17 refused", x.runCopies(), NO);
        due("18 the latest that was not", x.result(0), 8);
        due("19 the latest that was not", x.told(1), 3);
        due("19 its outcome", x.told(4), 0);
        x.body(0, a);
        x.empty();
        x.input(5);
        due("17", x.runCopies(), 0);
        due("18 that of the copies", x.result(0), 5);
        due("19 that of the copies", x.told(1), 1);
        x.body(0, x.on(12, x.on(9, 0)));
        due("16", x.run(), 1);
        due("18 none", x.result(0), 0);
        due("19 none", x.told(0), 0);
        due("19 steps", x.told(1), 2);
    }

    // ---- promises 20 and 21

    private static void counts() {
        Asked x = new Asked();
        x.list(0);
        x.pair(0, 0);
        x.number(1);
        x.number(1);
        x.number(1);
        x.function(0, 0, 0);
        x.input(3);
        x.input(3);
        due("20 types", x.count(0), 6);
        due("20 nodes", x.count(1), 3);
        due("20 functions", x.count(2), 1);
        due("20 input", x.count(3), 2);
        due("20 bad", x.count(4), BAD);
        due("20 below", x.count(-1), BAD);
    }

    private static void digests() {
        Asked x = new Asked();
        long h = 61;
        int[] start = {0, -1, -1, 1, 1, -1, -1, 1, 2, -1, -1, 1, 3, -1, -1, 1};
        for (int v : start) {
            h = 31 * h + v;
        }
        due("21 new", x.digest(), h);
        x.pair(2, 3);
        x.list(4);
        x.input(77);
        due("21 types", x.digest(), more(h, 4, 2, 3, 2, 5, 4, -1, 3));
        h = more(h, 4, 2, 3, 2, 5, 4, -1, 3);
        x.node(0, -9, 8, 8, 8);
        x.node(1, 1, 8, 8, 8);
        x.node(2, 8, 8, 8, 8);
        x.node(3, 0, 1, 8, 8);
        x.node(4, 1, 0, 8, 8);
        x.node(5, 1, 0, 2, 8);
        x.node(6, 0, 2, 8, 8);
        x.node(7, 2, 8, 8, 8);
        x.node(8, 3, 8, 8, 8);
        x.node(9, 5, 8, 8, 8);
        x.node(10, 4, 5, 8, 8);
        x.node(11, 5, 8, 8, 8);
        x.node(12, 6, 8, 8, 8);
        x.node(13, 7, 8, 8, 8);
        h = more(h, 0, -9, 1, 1, 2, 3, 0, 1, 4, 1, 0, 5, 1, 0, 2, 6, 0, 2, 7, 2, 8, 3, 9, 5, 10, 4, 5, 11, 5, 12, 6, 13, 7);
        due("21 nodes", x.digest(), h);
        x.node(14, 11, 2, -1, -1);
        x.node(14, 3, 1, 4, -1);
        x.node(14, 0, 0, 4, 5);
        h = more(h, 14, 11, 2, -1, -1, 14, 3, 1, 4, -1, 14, 0, 0, 4, 5);
        due("21 calls", x.digest(), h);
        x.function(2, 4, 5);
        x.function(0, 0, 1);
        due("21 functions", x.digest(), more(h, 2, 4, 5, -1, 0, 0, 1, -1));
        x.body(1, 6);
        due("21 bodies", x.digest(), more(h, 2, 4, 5, -1, 0, 0, 1, 6));
        x.run();
        x.node(15, 0, 0, 0, 0);
        x.pair(99, 0);
        due("21 refused calls change nothing", x.digest(), more(h, 2, 4, 5, -1, 0, 0, 1, 6));
    }

    private static long more(long h, int... row) {
        long g = h;
        for (int v : row) {
            g = 31 * g + v;
        }
        return g;
    }
}
