import java.util.ArrayList;
import java.util.Arrays;
import java.util.HashMap;
import java.util.List;
import java.util.Map;
import java.util.TreeSet;
import java.util.function.LongSupplier;

/**
 * The document written down a second time, in the simplest way (types are texts, values are objects, a run
 * is a recursion that an exception ends), and long rows of calls whose answers must be the same in both.
 */
public final class ModelTests {
    private static final int NONE = -1, BAD = -2, NO = -3, FULL = -4;
    private static final int CALLS = 512;
    private static final int ROWS = 2000;

    public static void main(String[] args) {
        Tally tally = new Tally();
        for (int seed = 1; seed <= ROWS && tally.wrong == 0; seed++) {
            new Pair(seed, tally).play();
        }
        if (tally.wrong == 0) {
            tally.demandEnough();
        }
        System.out.println(tally.wrong == 0 ? "model: all answers are as due" : tally.wrong + " answers are not as due");
        if (tally.wrong != 0) {
            System.exit(1);
        }
    }

    /** What was met in all, so that a row of calls that meets nothing is seen. */
    private static final class Tally {
        int wrong;
        final Map<String, Integer> met = new HashMap<>();

        void meet(String what) {
            met.merge(what, 1, Integer::sum);
        }

        void demandEnough() {
            String[] wanted = {"run -3", "run 0", "run 1", "run 2", "run 3", "run 4", "runCopies -3", "runCopies -4",
                "runCopies 0", "runCopies 1", "runCopies 2", "runCopies 3", "runCopies 4", "judge 0", "judge 1",
                "judge 2", "judge 3", "judge 4", "copies -4", "copies -3", "copies 1", "copies 2", "copies 3",
                "typeIn -5", "typeIn -1", "wrong -1", "pair -3", "node -3", "function -4", "input -4", "copy 5 -5"};
            for (String what : wanted) {
                if (met.getOrDefault(what, 0) < 3) {
                    wrong++;
                    System.out.println("met too seldom: " + what + ", " + met.getOrDefault(what, 0));
                }
            }
        }
    }

    // ---- the model

    @SuppressWarnings("serial")
    private static final class End extends RuntimeException {
        final int outcome;

        End(int outcome) {
            super(null, null, false, false);
            this.outcome = outcome;
        }
    }

    private record Link(Object head, Link tail) {
    }

    private record Fn(int letters, int argument, int result, String from, String to) {
    }

    private static int depth(String t) {
        int open = 0;
        int deepest = 0;
        for (char c : t.toCharArray()) {
            if (c == '(') {
                open++;
            }
            deepest = Math.max(deepest, open);
            if (c == ')') {
                open--;
            }
        }
        return deepest + 1;
    }

    private static String pairOf(String t, String u) {
        return "P(" + t + "," + u + ")";
    }

    private static String listOf(String t) {
        return "L(" + t + ")";
    }

    private static String firstOf(String t) {
        if (t.charAt(0) == 'L') {
            return t.substring(2, t.length() - 1);
        }
        int open = 0;
        for (int i = 2; ; i++) {
            char c = t.charAt(i);
            open += c == '(' ? 1 : c == ')' ? -1 : 0;
            if (c == ',' && open == 0) {
                return t.substring(2, i);
            }
        }
    }

    private static String secondOf(String t) {
        return t.substring(3 + firstOf(t).length(), t.length() - 1);
    }

    private static String with(String t, String a, String b) {
        return t.replace("A", "x").replace("B", "y").replace("x", a == null ? "?" : a).replace("y", b == null ? "?" : b);
    }

    private static int width(String t) {
        int cells = 0;
        int lists = 0;
        for (int i = 0; i < t.length(); i++) {
            char c = t.charAt(i);
            if (c == 'L' && lists == 0) {
                cells++;
            } else if ((c == 'I' || c == 'T') && lists == 0) {
                cells++;
            }
            if (c == 'L') {
                int open = 1;
                int j = i + 2;
                while (open > 0) {
                    open += t.charAt(j) == '(' ? 1 : t.charAt(j) == ')' ? -1 : 0;
                    j++;
                }
                i = j - 1;
            }
        }
        return cells;
    }

    private static boolean allows(int letters, String t) {
        return (letters > 0 || !t.contains("A")) && (letters > 1 || !t.contains("B"));
    }

    private static final class Model {
        final List<String> types = new ArrayList<>(List.of("I", "T", "A", "B"));
        final List<int[]> nodes = new ArrayList<>();
        final List<Fn> fns = new ArrayList<>();
        final Map<Integer, Integer> bodies = new HashMap<>();
        final List<Integer> row = new ArrayList<>();
        final List<Integer> out = new ArrayList<>();
        int runs;
        int steps;
        int links;
        int most;
        int open;
        int outcome = NONE;
        int taken;

        boolean type(int t) {
            return t >= 0 && t < types.size();
        }

        boolean node(int n) {
            return n >= 0 && n < nodes.size();
        }

        boolean fn(int f) {
            return f >= 0 && f < fns.size();
        }

        int tell(String t) {
            return t == null ? NONE : types.contains(t) ? types.indexOf(t) : -5;
        }

        int add(String t) {
            if (depth(t) > 5) {
                return NO;
            }
            if (!types.contains(t)) {
                if (types.size() == 200) {
                    return FULL;
                }
                types.add(t);
            }
            return types.indexOf(t);
        }

        int factOf(int number, int what) {
            if (!type(number) || what < 0 || what > 5) {
                return BAD;
            }
            String t = types.get(number);
            char c = t.charAt(0);
            switch (what) {
                case 0:
                    return "ITABPL".indexOf(c);
                case 1:
                    return t.length() == 1 ? NONE : types.indexOf(firstOf(t));
                case 2:
                    return c == 'P' ? types.indexOf(secondOf(t)) : NONE;
                case 3:
                    return depth(t);
                case 4:
                    return t.contains("A") || t.contains("B") ? NONE : width(t);
                default:
                    return (t.contains("A") ? 1 : 0) + (t.contains("B") ? 2 : 0);
            }
        }

        static int[] parts(int[] n) {
            switch (n[0]) {
                case 0: case 1: case 2: case 9:
                    return new int[0];
                case 14:
                    return new int[] {n[2]};
                case 5:
                    return new int[] {n[1], n[2], n[3]};
                case 3: case 4: case 6: case 10:
                    return new int[] {n[1], n[2]};
                default:
                    return new int[] {n[1]};
            }
        }

        int nodeDepth(int n) {
            int deepest = 0;
            for (int p : parts(nodes.get(n))) {
                deepest = Math.max(deepest, nodeDepth(p));
            }
            return deepest + 1;
        }

        int addNode(int kind, int a, int b, int c, int d) {
            if (kind < 0 || kind > 14) {
                return BAD;
            }
            int[] n = {kind, a, b, c, d};
            int deepest = 0;
            for (int p : parts(n)) {
                if (!node(p)) {
                    return BAD;
                }
                deepest = Math.max(deepest, nodeDepth(p));
            }
            if (kind == 1 && a != 0 && a != 1 || kind == 9 && !type(a)) {
                return BAD;
            }
            if (kind == 14 && (a < 0 || a > 11 || c != NONE && !type(c) || d != NONE && !type(d) || c == NONE && d != NONE)) {
                return BAD;
            }
            if (deepest + 1 > 12) {
                return NO;
            }
            if (nodes.size() == 200) {
                return FULL;
            }
            nodes.add(n);
            return nodes.size() - 1;
        }

        int addFn(int letters, int argument, int result) {
            if (letters < 0 || letters > 2 || !type(argument) || !type(result)) {
                return BAD;
            }
            String from = types.get(argument);
            String to = types.get(result);
            if (!allows(letters, from) || !allows(letters, to)) {
                return BAD;
            }
            if (fns.size() == 12) {
                return FULL;
            }
            fns.add(new Fn(letters, argument, result, from, to));
            return fns.size() - 1;
        }

        /** Null: WRONG. */
        String typeIn(int f, int at, Map<Integer, String> known) {
            if (known.containsKey(at)) {
                return known.get(at);
            }
            String t = typeOf(f, nodes.get(at), known);
            if (t != null && depth(t) > 5) {
                t = null;
            }
            known.put(at, t);
            return t;
        }

        String typeIn(int f, int at) {
            return typeIn(f, at, new HashMap<>());
        }

        String typeOf(int f, int[] n, Map<Integer, String> known) {
            int[] parts = parts(n);
            String[] p = new String[3];
            for (int i = 0; i < parts.length; i++) {
                p[i] = typeIn(f, parts[i], known);
                if (p[i] == null) {
                    return null;
                }
            }
            switch (n[0]) {
                case 0:
                    return "I";
                case 1:
                    return "T";
                case 2:
                    return fns.get(f).from;
                case 3: case 4:
                    return p[0].equals("I") && p[1].equals("I") ? (n[0] == 3 ? "I" : "T") : null;
                case 5:
                    return p[0].equals("T") && p[1].equals(p[2]) ? p[1] : null;
                case 6:
                    return pairOf(p[0], p[1]);
                case 7:
                    return p[0].charAt(0) == 'P' ? firstOf(p[0]) : null;
                case 8:
                    return p[0].charAt(0) == 'P' ? secondOf(p[0]) : null;
                case 9:
                    return allows(fns.get(f).letters, types.get(n[1])) ? listOf(types.get(n[1])) : null;
                case 10:
                    return p[1].equals(listOf(p[0])) ? p[1] : null;
                case 11:
                    return p[0].charAt(0) == 'L' ? "T" : null;
                case 12:
                    return p[0].charAt(0) == 'L' ? firstOf(p[0]) : null;
                case 13:
                    return p[0].charAt(0) == 'L' ? p[0] : null;
                default:
                    return typeOfCall(f, n, p[0]);
            }
        }

        String typeOfCall(int f, int[] n, String given) {
            String t = n[3] == NONE ? null : types.get(n[3]);
            String u = n[4] == NONE ? null : types.get(n[4]);
            int had = (t == null ? 0 : 1) + (u == null ? 0 : 1);
            if (!fn(n[1]) || fns.get(n[1]).letters != had) {
                return null;
            }
            int letters = fns.get(f).letters;
            if (t != null && !allows(letters, t) || u != null && !allows(letters, u)) {
                return null;
            }
            Fn g = fns.get(n[1]);
            return given.equals(with(g.from, t, u)) ? with(g.to, t, u) : null;
        }

        void meet(int n, List<Integer> met) {
            if (met.contains(n)) {
                return;
            }
            for (int p : parts(nodes.get(n))) {
                meet(p, met);
            }
            met.add(n);
        }

        List<Integer> under(int f) {
            List<Integer> met = new ArrayList<>();
            if (bodies.containsKey(f)) {
                meet(bodies.get(f), met);
            }
            return met;
        }

        int wrong(int f) {
            if (!fn(f)) {
                return BAD;
            }
            if (!bodies.containsKey(f)) {
                return NO;
            }
            for (int n : new TreeSet<>(under(f))) {
                boolean stand = true;
                for (int p : parts(nodes.get(n))) {
                    stand &= typeIn(f, p) != null;
                }
                if (stand && typeIn(f, n) == null) {
                    return n;
                }
            }
            return NONE;
        }

        TreeSet<Integer> reached(int f) {
            TreeSet<Integer> met = new TreeSet<>();
            List<Integer> open = new ArrayList<>(List.of(f));
            while (!open.isEmpty()) {
                for (int n : under(open.remove(0))) {
                    int[] row = nodes.get(n);
                    if (row[0] == 14 && met.add(row[1])) {
                        open.add(row[1]);
                    }
                }
            }
            return met;
        }

        int judge() {
            if (fns.isEmpty() || fns.get(0).letters != 0) {
                return 1;
            }
            TreeSet<Integer> all = reached(0);
            all.add(0);
            for (int f : all) {
                if (!fn(f) || !bodies.containsKey(f)) {
                    return 2;
                }
            }
            for (int f : all) {
                if (!fns.get(f).to.equals(typeIn(f, bodies.get(f)))) {
                    return 3;
                }
            }
            for (int f : all) {
                for (int n : under(f)) {
                    int[] row = nodes.get(n);
                    if (row[0] == 14 && (row[1] == f || reached(row[1]).contains(f)) && !handsOn(f, row)) {
                        return 4;
                    }
                }
            }
            return 0;
        }

        boolean handsOn(int f, int[] call) {
            int letters = fns.get(call[1]).letters;
            if (fns.get(f).letters < letters) {
                return false;
            }
            return call[3] == (letters > 0 ? 2 : NONE) && call[4] == (letters > 1 ? 3 : NONE);
        }

        /** The copies as texts "f/A/B"; null: refused. The types in a copy are found anew in it, not from f's. */
        List<String> copyList() {
            List<String> all = new ArrayList<>(List.of("0/?/?"));
            for (int i = 0; i < all.size(); i++) {
                String[] copy = all.get(i).split("/");
                int f = Integer.parseInt(copy[0]);
                Map<Integer, String> in = new HashMap<>();
                if (depth(with(fns.get(f).from, copy[1], copy[2])) > 5 || depth(with(fns.get(f).to, copy[1], copy[2])) > 5) {
                    return null;
                }
                for (int n : under(f)) {
                    int[] row = nodes.get(n);
                    in.put(n, typeInCopy(f, row, in, copy));
                    if (depth(in.get(n)) > 5) {
                        return null;
                    }
                    if (row[0] != 14) {
                        continue;
                    }
                    String called = row[1] + "/" + letter(row[3], copy) + "/" + letter(row[4], copy);
                    if (depth(letter(row[3], copy)) > 5 || depth(letter(row[4], copy)) > 5) {
                        return null;
                    }
                    if (!all.contains(called)) {
                        all.add(called);
                    }
                    if (all.size() > 60) {
                        return null;
                    }
                }
            }
            return all;
        }

        String letter(int type, String[] copy) {
            return type == NONE ? "?" : with(types.get(type), copy[1], copy[2]);
        }

        String typeInCopy(int f, int[] n, Map<Integer, String> in, String[] copy) {
            int[] parts = parts(n);
            String a = parts.length > 0 ? in.get(parts[0]) : null;
            String b = parts.length > 1 ? in.get(parts[1]) : null;
            switch (n[0]) {
                case 0: case 3:
                    return "I";
                case 1: case 4: case 11:
                    return "T";
                case 2:
                    return with(fns.get(f).from, copy[1], copy[2]);
                case 5: case 10:
                    return b;
                case 6:
                    return pairOf(a, b);
                case 7: case 12:
                    return firstOf(a);
                case 8:
                    return secondOf(a);
                case 9:
                    return listOf(letter(n[1], copy));
                case 13:
                    return a;
                default:
                    return with(fns.get(n[1]).to, letter(n[3], copy), letter(n[4], copy));
            }
        }

        int copies() {
            if (judge() != 0) {
                return NO;
            }
            List<String> all = copyList();
            return all == null ? FULL : all.size();
        }

        int copy(int i, int what) {
            if (what < 0 || what > 5) {
                return BAD;
            }
            int size = copies();
            if (i < 0 || i >= size) {
                return NONE;
            }
            String[] copy = copyList().get(i).split("/");
            Fn f = fns.get(Integer.parseInt(copy[0]));
            switch (what) {
                case 0:
                    return Integer.parseInt(copy[0]);
                case 1: case 2:
                    return copy[what].equals("?") ? NONE : tell(copy[what]);
                case 3:
                    return width(with(f.from, copy[1], copy[2]));
                case 4:
                    return width(with(f.to, copy[1], copy[2]));
                default:
                    return tell(with(f.from, copy[1], copy[2]));
            }
        }

        int next() {
            return taken < row.size() ? row.get(taken++) : 0;
        }

        Object take(String t) {
            switch (t.charAt(0)) {
                case 'I':
                    return next();
                case 'T':
                    return next() != 0;
                case 'P':
                    Object first = take(firstOf(t));
                    return new Object[] {first, take(secondOf(t))};
                default:
                    int size = Math.min(4, Math.max(0, next()));
                    Object[] all = new Object[size];
                    for (int i = 0; i < size; i++) {
                        all[i] = take(firstOf(t));
                    }
                    Link list = null;
                    for (int i = size - 1; i >= 0; i--) {
                        list = new Link(all[i], list);
                    }
                    return list;
            }
        }

        void tellValue(Object v) {
            if (out.size() >= 100) {
                return;
            }
            if (v instanceof Integer n) {
                out.add(n);
            } else if (v instanceof Boolean b) {
                out.add(b ? 1 : 0);
            } else if (v instanceof Object[] p) {
                tellValue(p[0]);
                tellValue(p[1]);
            } else {
                int size = 0;
                for (Link l = (Link) v; l != null; l = l.tail) {
                    size++;
                }
                out.add(size);
                for (Link l = (Link) v; l != null; l = l.tail) {
                    tellValue(l.head);
                }
            }
        }

        int work() {
            steps = 0;
            links = 0;
            most = 1;
            open = 1;
            taken = 0;
            out.clear();
            try {
                Object argument = take(fns.get(0).from);
                tellValue(eval(bodies.get(0), argument));
                while (out.size() > 100) {
                    out.remove(100);
                }
                outcome = 0;
            } catch (End end) {
                outcome = end.outcome;
            }
            return outcome;
        }

        Object eval(int at, Object argument) {
            steps++;
            if (steps == 601) {
                throw new End(2);
            }
            int[] n = nodes.get(at);
            if (n[0] == 5) {
                return eval((Boolean) eval(n[1], argument) ? n[2] : n[3], argument);
            }
            int[] parts = parts(n);
            Object a = parts.length > 0 ? eval(parts[0], argument) : null;
            Object b = parts.length > 1 ? eval(parts[1], argument) : null;
            switch (n[0]) {
                case 0:
                    return n[1];
                case 1:
                    return n[1] == 1;
                case 2:
                    return argument;
                case 3:
                    return (Integer) a + (Integer) b;
                case 4:
                    return (Integer) a < (Integer) b;
                case 6:
                    return new Object[] {a, b};
                case 7:
                    return ((Object[]) a)[0];
                case 8:
                    return ((Object[]) a)[1];
                case 9:
                    return null;
                case 10:
                    links++;
                    if (links == 101) {
                        throw new End(4);
                    }
                    return new Link(b == null && a == null ? null : a, (Link) b);
                case 11:
                    return a == null;
                case 12: case 13:
                    if (a == null) {
                        throw new End(1);
                    }
                    return n[0] == 12 ? ((Link) a).head : ((Link) a).tail;
                default:
                    return evalCall(n, a);
            }
        }

        Object evalCall(int[] n, Object given) {
            if (open == 30) {
                throw new End(3);
            }
            open++;
            most = Math.max(most, open);
            Object v = eval(bodies.get(n[1]), given);
            open--;
            return v;
        }

        int run() {
            if (judge() != 0) {
                return NO;
            }
            if (runs == 160) {
                return FULL;
            }
            runs++;
            return work();
        }

        int runCopies() {
            int made = copies();
            return made < 0 ? made : work();
        }

        int told(int what) {
            int[] all = {outcome == 0 ? out.size() : 0, steps, links, most, outcome};
            return what < 0 || what > 4 ? BAD : all[what];
        }

        int result(int i) {
            return outcome == 0 && i >= 0 && i < out.size() ? out.get(i) : 0;
        }

        int count(int what) {
            int[] all = {types.size(), nodes.size(), fns.size(), row.size()};
            return what < 0 || what > 3 ? BAD : all[what];
        }

        long digest() {
            List<Integer> all = new ArrayList<>();
            for (int t = 0; t < types.size(); t++) {
                for (int what = 0; what <= 3; what++) {
                    all.add(factOf(t, what));
                }
            }
            for (int[] n : nodes) {
                int wants = n[0] == 2 ? 0 : n[0] == 14 ? 4 : Math.max(1, parts(n).length);
                for (int i = 0; i <= wants; i++) {
                    all.add(n[i]);
                }
            }
            for (int f = 0; f < fns.size(); f++) {
                Fn g = fns.get(f);
                all.addAll(List.of(g.letters, g.argument, g.result, bodies.getOrDefault(f, NONE)));
            }
            long h = 61;
            for (int v : all) {
                h = 31 * h + v;
            }
            return h;
        }
    }

    // ---- rows of calls

    /** The program and the model side by side, with the same calls, made from a seed. */
    private static final class Pair {
        final TypeCopier x = new TypeCopier();
        final Model m = new Model();
        final Tally tally;
        final int seed;
        final List<String> made = new ArrayList<>();
        long state;
        int calls;

        Pair(int seed, Tally tally) {
            this.seed = seed;
            this.tally = tally;
            this.state = seed * 0x9E3779B97F4A7C15L;
        }

        int below(int bound) {
            state = state * 6364136223846793005L + 1442695040888963407L;
            return (int) Long.remainderUnsigned(state >>> 33, bound);
        }

        /** Asks no more than the document promises answers for. */
        void same(String call, LongSupplier asked, long want) {
            if (calls >= CALLS) {
                return;
            }
            calls++;
            made.add(call);
            long got = asked.getAsLong();
            if (got != want) {
                tally.wrong++;
                System.out.println("seed " + seed + ", call " + calls + ": " + call + " answered " + got + ", due is " + want);
                for (String one : made.size() < 120 ? made : made.subList(0, 0)) {
                    System.out.println("  " + one);
                }
            }
        }

        boolean goesOn() {
            return calls < CALLS && tally.wrong == 0;
        }

        void play() {
            switch (seed % 8) {
                case 0:
                    junk(CALLS);
                    break;
                case 5: case 6:
                    library();
                    break;
                case 7:
                    ladder();
                    break;
                case 1:
                    grow(2, 2 + below(3), 60 + below(60));
                    break;
                case 2:
                    grow(4 + below(8), 1 + below(12), 110);
                    break;
                case 3:
                    deepTypes();
                    grow(6, 12, 110);
                    break;
                default:
                    grow(1 + below(4), 3 + below(3), 190);
                    break;
            }
            if (!m.fns.isEmpty() && seed % 8 != 0) {
                lookAtAll();
            }
            while (goesOn()) {
                change();
                look();
                if (below(4) == 0) {
                    junk(3);
                }
            }
        }

        void deepTypes() {
            int t = below(4);
            while (goesOn() && depth(m.types.get(t)) < 4) {
                t = below(2) == 0 ? list(t) : pair(t, below(4));
            }
        }

        void grow(int types, int functions, int nodes) {
            for (int i = 0; i < types; i++) {
                if (below(2) == 0) {
                    pair(anyType(), anyType());
                } else {
                    list(anyType());
                }
            }
            function(0, lettered(0), lettered(0));
            for (int i = 1; i < functions; i++) {
                int letters = below(3);
                function(letters, lettered(letters), lettered(letters));
            }
            node(2, 0, 0, 0, 0);
            node(0, below(5), 0, 0, 0);
            node(1, below(2), 0, 0, 0);
            for (int i = 0; i < nodes && goesOn(); i++) {
                growNode(below(m.fns.size()));
            }
            for (int f = 0; f < m.fns.size(); f++) {
                giveRightBody(f);
            }
        }

        int anyType() {
            return below(m.types.size());
        }

        int lettered(int letters) {
            for (int i = 0; i < 20; i++) {
                int t = anyType();
                if (allows(letters, m.types.get(t))) {
                    return t;
                }
            }
            return 0;
        }

        /** A node that has a type in f and begins with a sign; NONE: none was found. */
        int like(int f, String begin) {
            int start = below(m.nodes.size());
            for (int i = 0; i < m.nodes.size(); i++) {
                int n = (start + i) % m.nodes.size();
                String t = m.typeIn(f, n);
                if (t != null && (t.equals(begin) || begin.length() == 1 && t.startsWith(begin) || begin.isEmpty())) {
                    return n;
                }
            }
            return NONE;
        }

        void growNode(int f) {
            int kind = new int[] {0, 1, 3, 4, 5, 5, 6, 6, 7, 8, 9, 10, 10, 11, 12, 13, 14, 14, 14, 14}[below(20)];
            int a;
            switch (kind) {
                case 0:
                    node(0, below(3) == 0 ? below(1 << 30) << 2 : below(7) - 3, 0, 0, 0);
                    break;
                case 1:
                    node(1, below(2), 0, 0, 0);
                    break;
                case 3: case 4:
                    node(kind, like(f, "I"), like(f, "I"), 0, 0);
                    break;
                case 5:
                    a = like(f, "");
                    if (a >= 0) {
                        node(5, like(f, "T"), a, like(f, m.typeIn(f, a)), 0);
                    }
                    break;
                case 6:
                    node(6, like(f, ""), like(f, ""), 0, 0);
                    break;
                case 7: case 8:
                    node(kind, like(f, "P"), 0, 0, 0);
                    break;
                case 9:
                    node(9, lettered(m.fns.get(f).letters), 0, 0, 0);
                    break;
                case 10:
                    int list = like(f, "L");
                    if (list >= 0) {
                        node(10, like(f, firstOf(m.typeIn(f, list))), list, 0, 0);
                    }
                    break;
                case 14:
                    growCall(f);
                    break;
                default:
                    node(kind, like(f, "L"), 0, 0, 0);
                    break;
            }
        }

        /** Small functions with letters, as one knows them, with bodies found by chance, and one that uses them. */
        void library() {
            int pairAB = pair(2, 3);
            int pairBA = pair(3, 2);
            int listA = list(2);
            int pairAA = pair(2, 2);
            int start = number(new String[] {"P(I,T)", "L(P(I,T))", "P(L(I),I)", "P(I,P(T,I))", "I"}[below(5)]);
            int end = number(new String[] {"P(T,I)", "L(I)", "L(P(T,I))", "P(P(T,I),P(I,T))", "P(P(I,I),L(I))"}[below(5)]);
            function(0, start, end);
            int[][] rows = {{2, pairAB, pairBA}, {1, 2, pairAA}, {1, 2, listA}, {1, listA, 2}, {2, pairAB, 3},
                {1, pair(2, listA), 2}, {1, pair(listA, listA), listA}, {2, pair(listA, 3), pair(listA, listA)}};
            int many = 3 + below(9);
            for (int i = 0; i < many; i++) {
                int[] row = rows[below(rows.length)];
                function(row[0], row[1], row[2]);
            }
            node(2, 0, 0, 0, 0);
            node(0, below(5), 0, 0, 0);
            node(1, below(2), 0, 0, 0);
            for (int f = m.fns.size() - 1; f >= 0; f--) {
                for (int i = 0; i < (f == 0 ? 60 : 12) && goesOn(); i++) {
                    growNode(f);
                    if (below(2) == 0) {
                        growFittingCall(f);
                    }
                }
                giveRightBody(f);
            }
        }

        /** Numbers a type with its parts; NONE: it can't be. */
        int number(String t) {
            if (m.types.contains(t)) {
                return m.types.indexOf(t);
            }
            int first = number(firstOf(t));
            int second = t.charAt(0) == 'P' ? number(secondOf(t)) : 0;
            if (first < 0 || second < 0) {
                return NONE;
            }
            int made = t.charAt(0) == 'P' ? pair(first, second) : list(first);
            return m.types.contains(t) ? made : NONE;
        }

        boolean fits(String pattern, String t, String[] letters) {
            char c = pattern.charAt(0);
            if (c == 'A' || c == 'B') {
                if (letters[c - 'A'] == null) {
                    letters[c - 'A'] = t;
                }
                return letters[c - 'A'].equals(t);
            }
            if (pattern.length() == 1 || c != t.charAt(0)) {
                return pattern.equals(t);
            }
            return fits(firstOf(pattern), firstOf(t), letters)
                && (c == 'L' || fits(secondOf(pattern), secondOf(t), letters));
        }

        /** A CALL on a node that is there, with the letters that its type asks for. */
        void growFittingCall(int f) {
            for (int i = 0; i < 10; i++) {
                int a = like(f, "");
                int g = below(m.fns.size());
                Fn called = m.fns.get(g);
                String[] letters = new String[2];
                if (a < 0 || !fits(called.from, m.typeIn(f, a), letters)) {
                    continue;
                }
                int t = called.letters < 1 ? NONE : letters[0] == null ? lettered(m.fns.get(f).letters) : number(letters[0]);
                int u = called.letters < 2 ? NONE : letters[1] == null ? lettered(m.fns.get(f).letters) : number(letters[1]);
                if ((called.letters < 1 || t >= 0) && (called.letters < 2 || u >= 0)) {
                    node(14, g, a, t, u);
                    return;
                }
            }
        }

        /** Functions of numbers whose letters only grow and multiply from one to the next. */
        void ladder() {
            for (int i = 0; i < 3 + below(6); i++) {
                if (below(3) > 0) {
                    pair(below(4), below(m.types.size()));
                } else {
                    list(anyType());
                }
            }
            int many = 3 + below(10);
            for (int f = 0; f < many; f++) {
                int letters = f == 0 ? 0 : 1 + below(2);
                function(letters, 0, below(6) == 0 ? lettered(letters) : 0);
            }
            int a = node(2, 0, 0, 0, 0);
            for (int f = m.fns.size() - 1; f >= 0; f--) {
                int at = below(4) == 0 ? node(0, f, 0, 0, 0) : a;
                int calls = f == m.fns.size() - 1 ? 0 : 1 + below(f == 0 ? 8 : 3);
                for (int i = 0; i < calls; i++) {
                    int g = f + 1 + below(Math.min(3, m.fns.size() - 1 - f));
                    int letters = m.fns.get(g).letters;
                    int own = m.fns.get(f).letters;
                    int one = node(14, g, a, letters > 0 ? lettered(own) : NONE, letters > 1 ? lettered(own) : NONE);
                    at = node(3, at, one, 0, 0);
                }
                body(f, at);
            }
        }

        void growCall(int f) {
            if (below(2) == 0) {
                growFittingCall(f);
                return;
            }
            int g = below(m.fns.size());
            Fn called = m.fns.get(g);
            for (int i = 0; i < 6; i++) {
                boolean handsOn = below(2) == 0;
                int t = called.letters > 0 ? handsOn && m.fns.get(f).letters > 0 ? 2 : lettered(m.fns.get(f).letters) : NONE;
                int u = called.letters > 1 ? handsOn && m.fns.get(f).letters > 1 ? 3 : lettered(m.fns.get(f).letters) : NONE;
                String from = with(called.from, t == NONE ? null : m.types.get(t), u == NONE ? null : m.types.get(u));
                int a = like(f, from);
                if (a >= 0 && from.equals(m.typeIn(f, a))) {
                    node(14, g, a, t, u);
                    return;
                }
            }
        }

        /** Gives a body that makes a function right; the one with the most calls under it, or any. */
        void giveRightBody(int f) {
            int best = NONE;
            int most = -1;
            boolean any = below(3) == 0;
            for (int i = 0; i < 12; i++) {
                int n = like(f, m.fns.get(f).to);
                if (n < 0 || !m.fns.get(f).to.equals(m.typeIn(f, n))) {
                    continue;
                }
                int worth = any ? below(100) : callsUnder(n);
                if (worth > most) {
                    most = worth;
                    best = n;
                }
            }
            body(f, best);
        }

        int callsUnder(int node) {
            List<Integer> met = new ArrayList<>();
            m.meet(node, met);
            int calls = 0;
            for (int n : met) {
                calls += m.nodes.get(n)[0] == 14 ? 3 : m.nodes.get(n)[0] == 10 ? 1 : 0;
            }
            return calls;
        }

        /** Looks at all there is to see before anything changes. */
        void lookAtAll() {
            for (int round = 0; round < 3 && goesOn(); round++) {
                for (int i = 0; i < below(10) + 2; i++) {
                    input(below(3) == 0 ? below(1000) - 500 : below(5));
                }
                tally.meet("run " + run());
                told();
                tally.meet("runCopies " + runCopies());
                told();
                empty();
            }
            judge();
            copies();
            int size = m.copies();
            for (int i = 0; i < size && i < 20; i++) {
                int which = size <= 20 ? i : below(size);
                for (int what = 0; what < 6; what++) {
                    copy(which, what);
                }
            }
        }

        void change() {
            if (m.fns.isEmpty() || m.nodes.isEmpty()) {
                junk(5);
                return;
            }
            int f = below(3) == 0 ? 0 : below(m.fns.size());
            switch (below(8)) {
                case 0:
                    growNode(f);
                    break;
                case 1:
                    body(f, below(m.nodes.size()));
                    break;
                case 2:
                    input(below(7) - 1);
                    break;
                case 3:
                    if (below(4) == 0) {
                        empty();
                    }
                    break;
                case 4:
                    loop();
                    break;
                default:
                    giveRightBody(f);
                    break;
            }
        }

        /** Makes a run long: a function that calls itself, links and all, and ends seldom. */
        void loop() {
            int f = below(m.fns.size());
            Fn fn = m.fns.get(f);
            int t = fn.letters > 0 ? 2 : NONE;
            int u = fn.letters > 1 ? 3 : NONE;
            int a = like(f, fn.from);
            if (a < 0 || !fn.from.equals(m.typeIn(f, a))) {
                return;
            }
            int self = node(14, f, a, t, u);
            if (self < 0) {
                return;
            }
            int over = below(3) == 0 ? node(10, like(f, fn.to.charAt(0) == 'L' ? firstOf(fn.to) : "I"), self, 0, 0)
                : node(5, like(f, "T"), below(2) == 0 ? self : like(f, fn.to), self, 0);
            if (over >= 0 && fn.to.equals(m.typeIn(f, over))) {
                body(f, over);
            }
        }

        void look() {
            switch (below(9)) {
                case 0: case 1:
                    tally.meet("run " + run());
                    told();
                    break;
                case 2: case 3:
                    tally.meet("runCopies " + runCopies());
                    told();
                    break;
                case 4:
                    judge();
                    break;
                case 5:
                    copies();
                    break;
                case 6:
                    copy(below(Math.max(3, m.copies() + 2)), below(6));
                    break;
                case 7:
                    typeIn(below(Math.max(1, m.fns.size())), below(Math.max(1, m.nodes.size())));
                    break;
                default:
                    wrong(below(12));
                    digest();
                    break;
            }
        }

        void told() {
            for (int what = 0; what <= 4; what++) {
                if (below(2) == 0) {
                    told(what);
                }
            }
            result(below(3));
            result(below(Math.max(1, m.told(0))));
            result(m.told(0) - 1);
        }

        int odd() {
            switch (below(10)) {
                case 0:
                    return -1;
                case 1:
                    return Integer.MAX_VALUE;
                case 2:
                    return Integer.MIN_VALUE;
                case 3:
                    return below(300);
                default:
                    return below(16);
            }
        }

        void junk(int times) {
            for (int i = 0; i < times && goesOn(); i++) {
                switch (below(21)) {
                    case 0: pair(odd(), odd()); break;
                    case 1: list(odd()); break;
                    case 2: type(odd(), odd()); break;
                    case 3: case 4: node(odd(), odd(), odd(), odd(), odd()); break;
                    case 5: function(odd(), odd(), odd()); break;
                    case 6: body(odd(), odd()); break;
                    case 7: typeIn(odd(), odd()); break;
                    case 8: wrong(odd()); break;
                    case 9: reaches(odd(), odd()); break;
                    case 10: judge(); break;
                    case 11: copies(); break;
                    case 12: copy(odd(), odd()); break;
                    case 13: input(odd()); break;
                    case 14: if (below(8) == 0) { empty(); } break;
                    case 15: tally.meet("run " + run()); break;
                    case 16: tally.meet("runCopies " + runCopies()); break;
                    case 17: result(odd()); break;
                    case 18: told(odd()); break;
                    case 19: count(odd()); break;
                    default: digest(); break;
                }
            }
        }

        // ---- single calls

        int pair(int t, int u) {
            int want = m.type(t) && m.type(u) ? m.add(pairOf(m.types.get(t), m.types.get(u))) : BAD;
            same("pair(" + t + ", " + u + ")", () -> x.pair(t, u), want);
            tally.meet("pair " + want);
            return Math.max(0, want);
        }

        int list(int t) {
            int want = m.type(t) ? m.add(listOf(m.types.get(t))) : BAD;
            same("list(" + t + ")", () -> x.list(t), want);
            return Math.max(0, want);
        }

        void type(int t, int what) {
            same("type(" + t + ", " + what + ")", () -> x.type(t, what), m.factOf(t, what));
        }

        int node(int kind, int a, int b, int c, int d) {
            int want = m.addNode(kind, a, b, c, d);
            int[] row = {kind, a, b, c, d};
            same("node" + Arrays.toString(row), () -> x.node(kind, a, b, c, d), want);
            tally.meet("node " + want);
            return want;
        }

        void function(int letters, int argument, int result) {
            int want = m.addFn(letters, argument, result);
            same("function(" + letters + ", " + argument + ", " + result + ")", () -> x.function(letters, argument, result), want);
            tally.meet("function " + want);
        }

        void body(int f, int n) {
            int want = m.fn(f) && m.node(n) ? 1 : BAD;
            if (want == 1) {
                m.bodies.put(f, n);
            }
            same("body(" + f + ", " + n + ")", () -> x.body(f, n), want);
        }

        void typeIn(int f, int n) {
            int want = m.fn(f) && m.node(n) ? m.tell(m.typeIn(f, n)) : BAD;
            same("typeIn(" + f + ", " + n + ")", () -> x.typeIn(f, n), want);
            tally.meet("typeIn " + want);
        }

        void wrong(int f) {
            same("wrong(" + f + ")", () -> x.wrong(f), m.wrong(f));
            tally.meet("wrong " + m.wrong(f));
        }

        void reaches(int f, int g) {
            int want = m.fn(f) && m.fn(g) ? (m.reached(f).contains(g) ? 1 : 0) : BAD;
            same("reaches(" + f + ", " + g + ")", () -> x.reaches(f, g), want);
        }

        void judge() {
            int want = m.judge();
            same("judge()", () -> x.judge(), want);
            tally.meet("judge " + want);
        }

        void copies() {
            int want = m.copies();
            same("copies()", () -> x.copies(), want);
            tally.meet("copies " + want);
        }

        void copy(int i, int what) {
            int want = m.copy(i, what);
            same("copy(" + i + ", " + what + ")", () -> x.copy(i, what), want);
            tally.meet("copy " + what + " " + want);
        }

        void input(int v) {
            int want = FULL;
            if (m.row.size() < 16) {
                m.row.add(v);
                want = m.row.size();
            }
            same("input(" + v + ")", () -> x.input(v), want);
            tally.meet("input " + want);
        }

        void empty() {
            int want = m.row.size();
            m.row.clear();
            same("empty()", () -> x.empty(), want);
        }

        int run() {
            int want = m.run();
            same("run()", () -> x.run(), want);
            return want;
        }

        int runCopies() {
            int want = m.runCopies();
            same("runCopies()", () -> x.runCopies(), want);
            return want;
        }

        void result(int i) {
            same("result(" + i + ")", () -> x.result(i), m.result(i));
        }

        void told(int what) {
            same("told(" + what + ")", () -> x.told(what), m.told(what));
        }

        void count(int what) {
            same("count(" + what + ")", () -> x.count(what), m.count(what));
        }

        void digest() {
            same("digest()", () -> x.digest(), m.digest());
        }
    }
}
