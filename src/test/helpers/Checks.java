import java.util.ArrayList;
import java.util.List;

/** Counts what is not as due; asks after a refused call whether anything has changed. */
final class Checks {
    static final int NONE = -1, BAD = -2, NO = -3, FULL = -4, UNNUMBERED = -5;
    static final int MIN = Integer.MIN_VALUE, MAX = Integer.MAX_VALUE;

    private static int wrong = 0;
    private static int sentences = 0;
    private static String at = "";

    private Checks() {
    }

    interface Scene {
        Asked make();
    }

    interface Asking {
        long of(Asked x);
    }

    /** One sentence of the document and its test; what goes wrong in one keeps no other from being tested. */
    static void sentence(String promise, String words, Runnable test) {
        at = promise + ", \"" + words + "\": ";
        sentences++;
        try {
            test.run();
        } catch (RuntimeException | StackOverflowError thrown) {
            wrong++;
            System.out.println(at + "ended by " + thrown);
        }
    }

    static void due(String what, long got, long want) {
        if (got != want) {
            wrong++;
            System.out.println(at + what + " answered " + got + ", due is " + want);
        }
    }

    /** Numbers that name none of so many things. */
    static int[] outside(int size) {
        return new int[] {MIN, MIN + 1, -(1 << 30), -5, -2, -1, size, size + 1, 1 << 30, MAX - 1, MAX};
    }

    /**
     * A call that is refused: its answer, and whether the object is then like one that was not asked, by all
     * that can be asked of both, and by what they answer when they are used further.
     */
    static void refused(String what, Scene scene, Asking call, int want) {
        Asked asked = scene.make();
        Asked like = scene.make();
        due(what, call.of(asked), want);
        List<String> names = new ArrayList<>();
        List<Long> after = portrait(asked, names);
        List<Long> before = portrait(like, new ArrayList<>());
        due(what + ", then the length of its portrait", after.size(), before.size());
        for (int i = 0; i < after.size() && i < before.size(); i++) {
            due(what + ", then " + names.get(i), after.get(i), before.get(i));
        }
    }

    private static List<Long> portrait(Asked x, List<String> names) {
        List<Long> all = new ArrayList<>();
        latest(x, names, all);
        state(x, names, all);
        further(x, names, all);
        return all;
    }

    private static void tell(List<String> names, List<Long> all, String name, long v) {
        names.add(name);
        all.add(v);
    }

    private static void latest(Asked x, List<String> names, List<Long> all) {
        for (int what = 0; what <= 4; what++) {
            tell(names, all, "told(" + what + ")", x.told(what));
        }
        for (int i = 0; i < 4; i++) {
            tell(names, all, "result(" + i + ")", x.result(i));
        }
    }

    private static void state(Asked x, List<String> names, List<Long> all) {
        for (int what = 0; what <= 3; what++) {
            tell(names, all, "count(" + what + ")", x.count(what));
        }
        tell(names, all, "digest()", x.digest());
        tell(names, all, "judge()", x.judge());
        tell(names, all, "copies()", x.copies());
        int types = x.count(0);
        for (int t = types - 2; t <= types; t++) {
            tell(names, all, "type(" + t + ", 4)", x.type(t, 4));
            tell(names, all, "type(" + t + ", 5)", x.type(t, 5));
        }
        int lastNode = x.count(1) - 1;
        int functions = x.count(2);
        for (int f = 0; f <= functions; f++) {
            tell(names, all, "wrong(" + f + ")", x.wrong(f));
            tell(names, all, "reaches(0, " + f + ")", x.reaches(0, f));
            tell(names, all, "typeIn(" + f + ", 0)", x.typeIn(f, 0));
            tell(names, all, "typeIn(" + f + ", " + lastNode + ")", x.typeIn(f, lastNode));
        }
        for (int i = 0; i < 3; i++) {
            for (int what = 0; what <= 5; what++) {
                tell(names, all, "copy(" + i + ", " + what + ")", x.copy(i, what));
            }
        }
    }

    private static void further(Asked x, List<String> names, List<Long> all) {
        tell(names, all, "run()", x.run());
        latest(x, names, all);
        tell(names, all, "runCopies()", x.runCopies());
        latest(x, names, all);
        tell(names, all, "input(9)", x.input(9));
        tell(names, all, "list(0)", x.list(0));
        tell(names, all, "pair(1, 1)", x.pair(1, 1));
        tell(names, all, "node NUMBER", x.number(3));
        tell(names, all, "function(0, 0, 0)", x.function(0, 0, 0));
        tell(names, all, "empty()", x.empty());
        tell(names, all, "digest()", x.digest());
    }

    static void end(String name) {
        String told = wrong == 0 ? sentences + " sentences, all answers are as due" : wrong + " answers are not as due";
        System.out.println(name + ": " + told);
        if (wrong != 0) {
            System.exit(1);
        }
    }
}
