import java.util.Arrays;

/**
 * A copier of programs by types: functions over types with letters are judged, each use at told types
 * becomes a copy of its own without letters, values of copies lie flat in cells; the program and its
 * copies run beside one another.
 */
public final class TypeCopier {
    public static final int NONE = -1, BAD = -2, NO = -3, FULL = -4;

    private static final int UNNUMBERED = -5;
    private static final int MOST_RUNS = 160;

    private final Numbered numbered;
    private final Nodes nodes;
    private final Functions functions;
    private final Judge typeJudge;
    private final Copies copyRows;
    private final Input inputRow;
    private final Report report;
    private final Machine letterMachine;
    private final Machine copyMachine;
    private int verdict;
    private int copyCount;
    private int runs;

    public TypeCopier() {
        numbered = new Numbered();
        nodes = new Nodes();
        functions = new Functions();
        typeJudge = new Judge(numbered, nodes, functions);
        copyRows = new Copies(numbered, nodes, functions, typeJudge);
        inputRow = new Input();
        report = new Report();
        letterMachine = new LetterMachine(nodes, inputRow, report, functions);
        copyMachine = new CopyMachine(nodes, inputRow, report, functions, copyRows);
        judgeAnew();
    }

    // ---- types

    public int pair(int t, int u) {
        if (!numbered.has(t) || !numbered.has(u)) {
            return BAD;
        }
        return numbered.take(Shape.pairOf(numbered.shapeOf(t), numbered.shapeOf(u)));
    }

    public int list(int t) {
        if (!numbered.has(t)) {
            return BAD;
        }
        return numbered.take(Shape.listOf(numbered.shapeOf(t)));
    }

    public int type(int t, int what) {
        if (!numbered.has(t)) {
            return BAD;
        }
        return numbered.factOf(t, what);
    }

    // ---- nodes, functions

    public int node(int kind, int a, int b, int c, int d) {
        if (!wantedStands(kind, a, b, c, d)) {
            return BAD;
        }
        if (nodes.depthOver(kind, a, b, c) > Nodes.DEEPEST) {
            return NO;
        }
        int n = nodes.add(kind, a, b, c, d);
        if (n != FULL) {
            typeJudge.fillNode(n);
        }
        return n;
    }

    private boolean wantedStands(int kind, int a, int b, int c, int d) {
        switch (kind) {
            case Nodes.TRUTH:
                return a == 0 || a == 1;
            case Nodes.NIL:
                return numbered.has(a);
            case Nodes.CALL:
                return a >= 0 && a < Functions.MOST && nodes.has(b) && callTypesStand(c, d);
            default:
                return nodes.isKind(kind) && nodes.partsStand(kind, a, b, c);
        }
    }

    private boolean callTypesStand(int t, int u) {
        if (t == NONE) {
            return u == NONE;
        }
        return numbered.has(t) && (u == NONE || numbered.has(u));
    }

    public int function(int letters, int argument, int result) {
        if (letters < 0 || letters > 2 || !numbered.has(argument) || !numbered.has(result)) {
            return BAD;
        }
        long from = numbered.shapeOf(argument);
        long to = numbered.shapeOf(result);
        if (!Functions.lettersAllow(letters, from) || !Functions.lettersAllow(letters, to)) {
            return BAD;
        }
        int f = functions.add(letters, argument, result, from, to);
        if (f != FULL) {
            for (int n = 0; n < nodes.size(); n++) {
                typeJudge.fillNode(n);
            }
            judgeAnew();
        }
        return f;
    }

    public int body(int function, int node) {
        if (!functions.has(function) || !nodes.has(node)) {
            return BAD;
        }
        functions.giveBody(function, node, nodes.usesUnder(node));
        judgeAnew();
        return 1;
    }

    // A new function can mend a CALL, a body can change any; nothing else changes what is found here.
    private void judgeAnew() {
        verdict = typeJudge.judgeProgram();
        copyCount = verdict == 0 ? copyRows.makeAll() : NO;
    }

    public int typeIn(int function, int node) {
        if (!functions.has(function) || !nodes.has(node)) {
            return BAD;
        }
        return numbered.tell(typeJudge.shapeIn(function, node));
    }

    public int wrong(int function) {
        if (!functions.has(function)) {
            return BAD;
        }
        if (functions.bodyOf(function) == NONE) {
            return NO;
        }
        return typeJudge.leastWrong(function);
    }

    public int reaches(int function, int other) {
        if (!functions.has(function) || !functions.has(other)) {
            return BAD;
        }
        return functions.reachedBy(function) >> other & 1;
    }

    public int judge() {
        return verdict;
    }

    // ---- copies

    public int copies() {
        return copyCount;
    }

    public int copy(int i, int what) {
        if (what < 0 || what > 5) {
            return BAD;
        }
        if (i < 0 || i >= copyCount) {
            return NONE;
        }
        return copyRows.factOf(i, what);
    }

    // ---- runs

    public int input(int v) {
        return inputRow.add(v);
    }

    public int empty() {
        return inputRow.clear();
    }

    public int run() {
        if (verdict != 0) {
            return NO;
        }
        if (runs >= MOST_RUNS) {
            return FULL;
        }
        runs++;
        return letterMachine.work(functions.argumentShape(0), functions.resultShape(0));
    }

    public int runCopies() {
        if (copyCount < 0) {
            return copyCount;
        }
        return copyMachine.work(functions.argumentShape(0), functions.resultShape(0));
    }

    public int result(int i) {
        return report.entry(i);
    }

    public int told(int what) {
        return report.factOf(what);
    }

    public int count(int what) {
        switch (what) {
            case 0:
                return numbered.size();
            case 1:
                return nodes.size();
            case 2:
                return functions.size();
            case 3:
                return inputRow.size();
            default:
                return BAD;
        }
    }

    public long digest() {
        long h = 61;
        for (int t = 0; t < numbered.size(); t++) {
            for (int what = 0; what <= 3; what++) {
                h = 31 * h + numbered.factOf(t, what);
            }
        }
        return functions.digestFrom(nodes.digestFrom(h));
    }

    /**
     * Types as whole numbers, shallow ones below deeper ones: 0 INT, 1 TRUTH, 2 A, 3 B; then, with R the
     * count of numbers that all types of less depth take, LIST of t is R + t, and PAIR of t and u is
     * R + (t + 1) R + u. Like types are like numbers so, and no type needs a place where it is kept.
     */
    private static final class Shape {
        static final int INT = 0, TRUTH = 1, A = 2, B = 3, PAIR = 4, LIST = 5;
        /** No type: it is WRONG, would be too deep, or is not there. */
        static final long NOT = -1;

        /** How many numbers the types down to each depth take. */
        private static final long[] ROOMS = {4L, 24L, 624L, 390624L, 152587890624L};

        private Shape() {
        }

        static int depthOf(long t) {
            if (t < 0) {
                return 0;
            }
            for (int depth = 1; depth <= ROOMS.length; depth++) {
                if (t < ROOMS[depth - 1]) {
                    return depth;
                }
            }
            return 0;
        }

        /** The room of the types as deep as one; 0: nothing can be made of so deep a type. */
        private static long roomWith(long t) {
            if (t < 0) {
                return 0;
            }
            for (int i = 0; i < ROOMS.length - 1; i++) {
                if (t < ROOMS[i]) {
                    return ROOMS[i];
                }
            }
            return 0;
        }

        /** The room of the types less deep than one; 0: there are none. */
        private static long roomBelow(long t) {
            long below = 0;
            for (int i = 0; i < ROOMS.length - 1; i++) {
                if (t >= ROOMS[i]) {
                    below = ROOMS[i];
                }
            }
            return below;
        }

        static long listOf(long t) {
            long below = roomWith(t);
            return below < 1 ? NOT : below + t;
        }

        static long pairOf(long t, long u) {
            long withFirst = roomWith(t);
            long withSecond = roomWith(u);
            if (withFirst < 1 || withSecond < 1) {
                return NOT;
            }
            long below = Math.max(withFirst, withSecond);
            return below + (t + 1) * below + u;
        }

        static int kindOf(long t) {
            if (t < 0) {
                return NONE;
            }
            if (t < 4) {
                return (int) t;
            }
            long below = roomBelow(t);
            return t - below < below ? LIST : PAIR;
        }

        /** The first part of a PAIR, or what a LIST is of. */
        static long firstOf(long t) {
            long below = roomBelow(t);
            if (below < 1) {
                return NOT;
            }
            long over = t - below;
            return over < below ? over : over / below - 1;
        }

        static long secondOf(long t) {
            long below = roomBelow(t);
            if (below < 1 || t - below < below) {
                return NOT;
            }
            return (t - below) % below;
        }

        /** A type with a for A and b for B at once; NOT where it would be too deep. */
        private static long withLetters(long t, long a, long b) {
            switch (kindOf(t)) {
                case A:
                    return a;
                case B:
                    return b;
                case LIST:
                    return listOf(withLetters(firstOf(t), a, b));
                case PAIR:
                    return pairOf(withLetters(firstOf(t), a, b), withLetters(secondOf(t), a, b));
                default:
                    return t;
            }
        }

        /** 1 for A, 2 for B, together. */
        private static int lettersOf(long t) {
            switch (kindOf(t)) {
                case A:
                    return 1;
                case B:
                    return 2;
                case LIST:
                    return lettersOf(firstOf(t));
                case PAIR:
                    return lettersOf(firstOf(t)) | lettersOf(secondOf(t));
                default:
                    return 0;
            }
        }

        static int widthOf(long t) {
            return depthOf(t) < 1 || lettersOf(t) != 0 ? NONE : leavesOf(t);
        }

        private static int leavesOf(long t) {
            return kindOf(t) == PAIR ? leavesOf(firstOf(t)) + leavesOf(secondOf(t)) : 1;
        }
    }

    /** The NUMBERED types. */
    private static final class Numbered {
        static final int MOST = 200;

        private final long[] shapes = new long[MOST];
        private int size;

        Numbered() {
            for (int t = 0; t < 4; t++) {
                shapes[t] = t;
            }
            size = 4;
        }

        int size() {
            return size;
        }

        boolean has(int number) {
            return number >= 0 && number < size && number < MOST;
        }

        long shapeOf(int number) {
            return has(number) ? shapes[number] : Shape.NOT;
        }

        int tell(long shape) {
            if (shape < 0) {
                return NONE;
            }
            for (int t = 0; t < size && t < MOST; t++) {
                if (shapes[t] == shape) {
                    return t;
                }
            }
            return UNNUMBERED;
        }

        int take(long shape) {
            if (shape < 0) {
                return NO;
            }
            int known = tell(shape);
            if (known != UNNUMBERED) {
                return known;
            }
            if (size >= MOST) {
                return FULL;
            }
            shapes[size] = shape;
            return size++;
        }

        int factOf(int number, int what) {
            long shape = shapeOf(number);
            switch (what) {
                case 0:
                    return Shape.kindOf(shape);
                case 1:
                    return tell(Shape.firstOf(shape));
                case 2:
                    return tell(Shape.secondOf(shape));
                case 3:
                    return Shape.depthOf(shape);
                case 4:
                    return Shape.widthOf(shape);
                case 5:
                    return Shape.lettersOf(shape);
                default:
                    return BAD;
            }
        }
    }

    /** The NODES, and a walk over those under one of them. */
    private static final class Nodes {
        static final int MOST = 200, DEEPEST = 12;
        static final int NUMBER = 0, TRUTH = 1, ARGUMENT = 2, ADD = 3, LESS = 4, IF = 5, PAIR = 6, FIRST = 7;
        static final int SECOND = 8, NIL = 9, LINK = 10, EMPTY = 11, HEAD = 12, TAIL = 13, CALL = 14;

        private static final int[] WANTS = {1, 1, 0, 2, 2, 3, 2, 1, 1, 1, 2, 1, 1, 1, 4};
        private static final int[] PARTS = {0, 0, 0, 2, 2, 3, 2, 1, 1, 0, 2, 1, 1, 1, 1};
        private static final int MOST_WANTED = 4;

        private final int[] kinds = new int[MOST];
        private final int[] depths = new int[MOST];
        private final int[] wanted = new int[MOST * MOST_WANTED];
        private final int[] seen = new int[MOST];
        private final int[] met = new int[MOST];
        private int size;
        private int metSize;

        int size() {
            return size;
        }

        boolean has(int n) {
            return n >= 0 && n < size && n < MOST;
        }

        boolean isKind(int kind) {
            return kind >= 0 && kind <= CALL;
        }

        int kindOf(int n) {
            return has(n) ? kinds[n] : NONE;
        }

        int wantsOf(int kind) {
            return kind >= 0 && kind < WANTS.length ? WANTS[kind] : 0;
        }

        int partsOf(int kind) {
            return kind >= 0 && kind < PARTS.length ? PARTS[kind] : 0;
        }

        int wantedAt(int n, int i) {
            return has(n) && i >= 0 && i < MOST_WANTED ? wanted[n * MOST_WANTED + i] : NONE;
        }

        /** The i-th part of a node; of a CALL that is its argument, which stands behind the function. */
        int partOf(int n, int i) {
            if (!has(n) || i < 0 || i >= MOST_WANTED) {
                return NONE;
            }
            int kind = kinds[n];
            if (kind < 0 || kind >= PARTS.length || i >= PARTS[kind]) {
                return NONE;
            }
            return wanted[n * MOST_WANTED + (kind == CALL ? 1 : i)];
        }

        boolean partsStand(int kind, int a, int b, int c) {
            int parts = partsOf(kind);
            return (parts < 1 || has(a)) && (parts < 2 || has(b)) && (parts < 3 || has(c));
        }

        int depthOver(int kind, int a, int b, int c) {
            if (kind == CALL) {
                return 1 + depthOf(b);
            }
            int parts = partsOf(kind);
            int deepest = 0;
            if (parts > 0) {
                deepest = depthOf(a);
            }
            if (parts > 1) {
                deepest = Math.max(deepest, depthOf(b));
            }
            if (parts > 2) {
                deepest = Math.max(deepest, depthOf(c));
            }
            return 1 + deepest;
        }

        private int depthOf(int n) {
            return has(n) ? depths[n] : 0;
        }

        int add(int kind, int a, int b, int c, int d) {
            if (size >= MOST) {
                return FULL;
            }
            int first = size * MOST_WANTED;
            if (first + 3 >= wanted.length) {
                return FULL;
            }
            kinds[size] = kind;
            depths[size] = depthOver(kind, a, b, c);
            wanted[first] = a;
            wanted[first + 1] = b;
            wanted[first + 2] = c;
            wanted[first + 3] = d;
            return size++;
        }

        /** Meets the nodes under a node and it: parts from left to right, then itself, each once. */
        void meetUnder(int n) {
            Arrays.fill(seen, 0);
            metSize = 0;
            meet(n, 1);
        }

        private void meet(int n, int level) {
            if (!has(n) || level > DEEPEST || seen[n] != 0) {
                return;
            }
            seen[n] = 1;
            int parts = partsOf(kinds[n]);
            for (int i = 0; i < parts; i++) {
                meet(partOf(n, i), level + 1);
            }
            if (metSize < MOST) {
                met[metSize++] = n;
            }
        }

        /** A bit for each function that is called under a node or by it. */
        int usesUnder(int node) {
            meetUnder(node);
            int uses = 0;
            for (int i = 0; i < metSize; i++) {
                int n = metAt(i);
                if (kindOf(n) == CALL) {
                    uses |= 1 << wantedAt(n, 0);
                }
            }
            return uses;
        }

        int metSize() {
            return metSize;
        }

        int metAt(int i) {
            return i >= 0 && i < metSize && i < MOST ? met[i] : NONE;
        }

        long digestFrom(long start) {
            long h = start;
            for (int n = 0; n < size; n++) {
                int kind = kindOf(n);
                h = 31 * h + kind;
                int wants = wantsOf(kind);
                for (int i = 0; i < wants; i++) {
                    h = 31 * h + wantedAt(n, i);
                }
            }
            return h;
        }
    }

    /** The FUNCTIONS, and which of them use and reach which. */
    private static final class Functions {
        static final int MOST = 12;

        private final int[] letters = new int[MOST];
        private final int[] arguments = new int[MOST];
        private final int[] results = new int[MOST];
        private final long[] argumentShapes = new long[MOST];
        private final long[] resultShapes = new long[MOST];
        private final int[] bodies = new int[MOST];
        private final int[] uses = new int[MOST];
        private int size;

        int size() {
            return size;
        }

        boolean has(int f) {
            return f >= 0 && f < size && f < MOST;
        }

        int lettersOf(int f) {
            return has(f) ? letters[f] : 0;
        }

        long argumentShape(int f) {
            return has(f) ? argumentShapes[f] : Shape.NOT;
        }

        long resultShape(int f) {
            return has(f) ? resultShapes[f] : Shape.NOT;
        }

        int bodyOf(int f) {
            return has(f) ? bodies[f] : NONE;
        }

        static boolean lettersAllow(int letters, long shape) {
            int had = letters == 2 ? 3 : letters;
            return (Shape.lettersOf(shape) & ~had) == 0;
        }

        int add(int letterCount, int argument, int result, long from, long to) {
            if (size >= MOST) {
                return FULL;
            }
            letters[size] = letterCount;
            arguments[size] = argument;
            results[size] = result;
            argumentShapes[size] = from;
            resultShapes[size] = to;
            bodies[size] = NONE;
            return size++;
        }

        /** The uses are a bit for each function that is called, whether it is there or not. */
        void giveBody(int f, int node, int usesOfBody) {
            if (has(f)) {
                bodies[f] = node;
                uses[f] = usesOfBody;
            }
        }

        /** A bit for each function that is reached; a path has no more functions than there can be. */
        int reachedBy(int f) {
            int reached = has(f) ? uses[f] : 0;
            for (int round = 0; round < MOST; round++) {
                for (int g = 0; g < MOST; g++) {
                    if ((reached >> g & 1) != 0) {
                        reached |= uses[g];
                    }
                }
            }
            return reached;
        }

        long digestFrom(long start) {
            long h = start;
            for (int f = 0; f < size && f < MOST; f++) {
                h = 31 * h + letters[f];
                h = 31 * h + arguments[f];
                h = 31 * h + results[f];
                h = 31 * h + bodies[f];
            }
            return h;
        }
    }

    /** Finds the types of nodes in functions, and whether the program is right. */
    private static final class Judge {
        private final Numbered numbered;
        private final Nodes nodes;
        private final Functions functions;
        private final long[][] shapes = new long[Functions.MOST][Nodes.MOST];

        Judge(Numbered numbered, Nodes nodes, Functions functions) {
            this.numbered = numbered;
            this.nodes = nodes;
            this.functions = functions;
        }

        /**
         * Finds the type of a node in each function, from those of its parts. A new node asks for it, and
         * of all nodes, in their order, a new function: it has types to be found, and CALLS of it may stand.
         */
        void fillNode(int n) {
            for (int f = 0; f < functions.size(); f++) {
                setShape(f, n, findShape(f, n));
            }
        }

        private void setShape(int f, int n, long shape) {
            if (f >= 0 && f < Functions.MOST && n >= 0 && n < Nodes.MOST) {
                shapes[f][n] = shape;
            }
        }

        /** The type of a node in a function; NOT: it is WRONG. */
        long shapeIn(int f, int n) {
            return functions.has(f) && nodes.has(n) ? shapes[f][n] : Shape.NOT;
        }

        private long partShape(int f, int n, int i) {
            return shapeIn(f, nodes.partOf(n, i));
        }

        private long findShape(int f, int n) {
            long a = partShape(f, n, 0);
            long b = partShape(f, n, 1);
            switch (nodes.kindOf(n)) {
                case Nodes.NUMBER:
                    return Shape.INT;
                case Nodes.TRUTH:
                    return Shape.TRUTH;
                case Nodes.ARGUMENT:
                    return functions.argumentShape(f);
                case Nodes.ADD:
                    return a == Shape.INT && b == Shape.INT ? Shape.INT : Shape.NOT;
                case Nodes.LESS:
                    return a == Shape.INT && b == Shape.INT ? Shape.TRUTH : Shape.NOT;
                case Nodes.IF:
                    return a == Shape.TRUTH && b == partShape(f, n, 2) ? b : Shape.NOT;
                case Nodes.PAIR:
                    return Shape.pairOf(a, b);
                case Nodes.FIRST:
                    return Shape.kindOf(a) == Shape.PAIR ? Shape.firstOf(a) : Shape.NOT;
                case Nodes.SECOND:
                    return Shape.kindOf(a) == Shape.PAIR ? Shape.secondOf(a) : Shape.NOT;
                case Nodes.NIL:
                    return nilShape(f, numbered.shapeOf(nodes.wantedAt(n, 0)));
                case Nodes.LINK:
                    return b == Shape.listOf(a) ? b : Shape.NOT;
                case Nodes.CALL:
                    return callShape(f, n, a);
                default:
                    return shapeOverList(nodes.kindOf(n), a);
            }
        }

        private long shapeOverList(int kind, long a) {
            if (Shape.kindOf(a) != Shape.LIST) {
                return Shape.NOT;
            }
            switch (kind) {
                case Nodes.EMPTY:
                    return Shape.TRUTH;
                case Nodes.HEAD:
                    return Shape.firstOf(a);
                case Nodes.TAIL:
                    return a;
                default:
                    return Shape.NOT;
            }
        }

        private long nilShape(int f, long of) {
            return Functions.lettersAllow(functions.lettersOf(f), of) ? Shape.listOf(of) : Shape.NOT;
        }

        private long callShape(int f, int n, long given) {
            int g = nodes.wantedAt(n, 0);
            long t = numbered.shapeOf(nodes.wantedAt(n, 2));
            long u = numbered.shapeOf(nodes.wantedAt(n, 3));
            int types = t == Shape.NOT ? 0 : u == Shape.NOT ? 1 : 2;
            if (!functions.has(g) || functions.lettersOf(g) != types || given == Shape.NOT) {
                return Shape.NOT;
            }
            int letters = functions.lettersOf(f);
            if (!Functions.lettersAllow(letters, t) || !Functions.lettersAllow(letters, u)) {
                return Shape.NOT;
            }
            if (given != Shape.withLetters(functions.argumentShape(g), t, u)) {
                return Shape.NOT;
            }
            return Shape.withLetters(functions.resultShape(g), t, u);
        }

        /** As parts stand ahead of what they are of, the least that is WRONG has none that is. */
        int leastWrong(int f) {
            nodes.meetUnder(functions.bodyOf(f));
            int least = NONE;
            for (int i = 0; i < nodes.metSize(); i++) {
                int n = nodes.metAt(i);
                if (shapeIn(f, n) == Shape.NOT && (least == NONE || n < least)) {
                    least = n;
                }
            }
            return least;
        }

        int judgeProgram() {
            if (!functions.has(0) || functions.lettersOf(0) != 0) {
                return 1;
            }
            int reached = functions.reachedBy(0) | 1;
            if (!allHaveBodies(reached)) {
                return 2;
            }
            if (!allAreRight(reached)) {
                return 3;
            }
            return allAreRegular(reached) ? 0 : 4;
        }

        private boolean allHaveBodies(int reached) {
            for (int f = 0; f < Functions.MOST; f++) {
                if ((reached >> f & 1) != 0 && functions.bodyOf(f) == NONE) {
                    return false;
                }
            }
            return true;
        }

        private boolean allAreRight(int reached) {
            for (int f = 0; f < Functions.MOST; f++) {
                if ((reached >> f & 1) != 0 && shapeIn(f, functions.bodyOf(f)) != functions.resultShape(f)) {
                    return false;
                }
            }
            return true;
        }

        private boolean allAreRegular(int reached) {
            for (int f = 0; f < Functions.MOST; f++) {
                if ((reached >> f & 1) == 0) {
                    continue;
                }
                nodes.meetUnder(functions.bodyOf(f));
                for (int i = 0; i < nodes.metSize(); i++) {
                    int n = nodes.metAt(i);
                    if (nodes.kindOf(n) == Nodes.CALL && !isRegular(f, n)) {
                        return false;
                    }
                }
            }
            return true;
        }

        /** Whether a CALL in f from which f is reached again hands on the letters of f as they are. */
        private boolean isRegular(int f, int call) {
            int g = nodes.wantedAt(call, 0);
            if (g != f && (functions.reachedBy(g) >> f & 1) == 0) {
                return true;
            }
            int letters = functions.lettersOf(g);
            boolean first = letters < 1 || nodes.wantedAt(call, 2) == Shape.A;
            boolean second = letters < 2 || nodes.wantedAt(call, 3) == Shape.B;
            return letters <= functions.lettersOf(f) && first && second;
        }
    }

    /** The copies of a right program: functions with types for their letters, and the widths in them. */
    private static final class Copies {
        static final int MOST = 60;

        private final Numbered numbered;
        private final Nodes nodes;
        private final Functions functions;
        private final Judge judge;
        private final int[] copied = new int[MOST];
        private final long[] forA = new long[MOST];
        private final long[] forB = new long[MOST];
        private final long[] arguments = new long[MOST];
        private final int[] argumentWidths = new int[MOST];
        private final int[] resultWidths = new int[MOST];
        private final int[][] widths = new int[MOST][Nodes.MOST];
        private final int[][] called = new int[MOST][Nodes.MOST];
        private int size;

        Copies(Numbered numbered, Nodes nodes, Functions functions, Judge judge) {
            this.numbered = numbered;
            this.nodes = nodes;
            this.functions = functions;
            this.judge = judge;
        }

        /** How many copies there are, or FULL. */
        int makeAll() {
            size = 0;
            findOrAdd(0, Shape.NOT, Shape.NOT);
            for (int i = 0; i < size && i < MOST; i++) {
                if (!makeOne(i)) {
                    return FULL;
                }
            }
            return size;
        }

        private int findOrAdd(int f, long a, long b) {
            for (int i = 0; i < size && i < MOST; i++) {
                if (copied[i] == f && forA[i] == a && forB[i] == b) {
                    return i;
                }
            }
            if (size >= MOST) {
                return FULL;
            }
            copied[size] = f;
            forA[size] = a;
            forB[size] = b;
            return size++;
        }

        /** Finds what a copy's nodes are in it, and the copies it calls; whether all that can be. */
        private boolean makeOne(int i) {
            if (!has(i)) {
                return false;
            }
            int f = copied[i];
            long argument = Shape.withLetters(functions.argumentShape(f), forA[i], forB[i]);
            long result = Shape.withLetters(functions.resultShape(f), forA[i], forB[i]);
            if (argument == Shape.NOT || result == Shape.NOT) {
                return false;
            }
            arguments[i] = argument;
            argumentWidths[i] = Shape.widthOf(argument);
            resultWidths[i] = Shape.widthOf(result);
            nodes.meetUnder(functions.bodyOf(f));
            for (int m = 0; m < nodes.metSize(); m++) {
                int n = nodes.metAt(m);
                long shape = Shape.withLetters(judge.shapeIn(f, n), forA[i], forB[i]);
                int target = nodes.kindOf(n) == Nodes.CALL ? copyForCall(n, forA[i], forB[i]) : 0;
                if (shape == Shape.NOT || target == FULL || !nodes.has(n)) {
                    return false;
                }
                widths[i][n] = Shape.widthOf(shape);
                called[i][n] = target;
            }
            return true;
        }

        private int copyForCall(int call, long forCallerA, long forCallerB) {
            int g = nodes.wantedAt(call, 0);
            int letters = functions.lettersOf(g);
            long a = Shape.withLetters(numbered.shapeOf(nodes.wantedAt(call, 2)), forCallerA, forCallerB);
            long b = Shape.withLetters(numbered.shapeOf(nodes.wantedAt(call, 3)), forCallerA, forCallerB);
            if (letters > 0 && a == Shape.NOT || letters > 1 && b == Shape.NOT) {
                return FULL;
            }
            return findOrAdd(g, a, b);
        }

        private boolean has(int i) {
            return i >= 0 && i < size && i < MOST;
        }

        int functionOf(int i) {
            return has(i) ? copied[i] : NONE;
        }

        int argumentWidth(int i) {
            return has(i) ? argumentWidths[i] : 0;
        }

        int resultWidth(int i) {
            return has(i) ? resultWidths[i] : 0;
        }

        int widthAt(int i, int n) {
            return has(i) && nodes.has(n) ? widths[i][n] : 0;
        }

        int calledAt(int i, int n) {
            return has(i) && nodes.has(n) ? called[i][n] : NONE;
        }

        int factOf(int i, int what) {
            if (!has(i)) {
                return NONE;
            }
            switch (what) {
                case 0:
                    return copied[i];
                case 1:
                    return numbered.tell(forA[i]);
                case 2:
                    return numbered.tell(forB[i]);
                case 3:
                    return argumentWidths[i];
                case 4:
                    return resultWidths[i];
                case 5:
                    return numbered.tell(arguments[i]);
                default:
                    return BAD;
            }
        }
    }

    /** The row from which arguments are taken. */
    private static final class Input {
        static final int MOST = 16;

        private final int[] row = new int[MOST];
        private int size;
        private int taken;

        int size() {
            return size;
        }

        int add(int v) {
            if (size >= MOST) {
                return FULL;
            }
            row[size] = v;
            size++;
            return size;
        }

        int clear() {
            int had = size;
            size = 0;
            return had;
        }

        void rewind() {
            taken = 0;
        }

        /** The next one of the row; 0 where it ends. */
        int next() {
            if (taken < 0 || taken >= size || taken >= MOST) {
                return 0;
            }
            return row[taken++];
        }
    }

    /** What is told of the latest run. */
    private static final class Report {
        static final int MOST = 100;

        private final int[] row = new int[MOST];
        private int size;
        private int steps;
        private int links;
        private int mostOpen;
        private int outcome = NONE;

        void begin() {
            size = 0;
            steps = 0;
            links = 0;
            mostOpen = 0;
            outcome = 0;
        }

        boolean goesOn() {
            return outcome == 0;
        }

        void end(int how) {
            outcome = how;
        }

        int outcome() {
            return outcome;
        }

        /** Counts a step more; how many they are now. */
        int countStep() {
            steps++;
            return steps;
        }

        int countLink() {
            links++;
            return links;
        }

        void noteOpen(int open) {
            mostOpen = Math.max(mostOpen, open);
        }

        boolean isFull() {
            return size >= MOST;
        }

        void add(int v) {
            if (size >= 0 && size < MOST) {
                row[size++] = v;
            }
        }

        int entry(int i) {
            return i >= 0 && i < size && i < MOST ? row[i] : 0;
        }

        int factOf(int what) {
            switch (what) {
                case 0:
                    return size;
                case 1:
                    return steps;
                case 2:
                    return links;
                case 3:
                    return mostOpen;
                case 4:
                    return outcome;
                default:
                    return BAD;
            }
        }
    }

    /**
     * Works a program without recursion of its own, as 30 functions of 12 levels may be open at once.
     * Its cells are a stack of values below, and a heap of what values point to above; the two kinds of
     * machines differ in how many cells a value takes and in how a PAIR lies in them. A LIST is one cell:
     * 0, or where its first link lies on the heap: the next link, then the head.
     */
    private abstract static class Machine {
        static final int MOST_STEPS = 600, MOST_OPEN = 30, MOST_LINKS = 100;
        static final int STACK = 4096, CELLS = 8192;
        /** Far above the turns of 600 steps, which are four a step at most. */
        static final int MOST_TURNS = 100000;
        /** Far above the links that a run can make or find in its argument. */
        static final int LONGEST = 1000;
        static final int MOST_GIVEN = 4;

        final Nodes nodes;
        private final Input input;
        private final Report report;
        private final int[] cells = new int[CELLS];
        private final int[] workedNode = new int[MOST_STEPS];
        private final int[] workedTurns = new int[MOST_STEPS];
        private final int[] openUnit = new int[MOST_OPEN];
        private final int[] openArgument = new int[MOST_OPEN];
        private int top;
        private int heap;
        private int worked;
        private int open;

        Machine(Nodes nodes, Input input, Report report) {
            this.nodes = nodes;
            this.input = input;
            this.report = report;
        }

        /** A unit is what is called: a function in one kind of machine, a copy in the other. */
        abstract int bodyOf(int unit);

        abstract int calledAt(int unit, int call);

        abstract int argumentWidth(int unit);

        abstract int resultWidth(int unit);

        abstract int nodeWidth(int unit, int n);

        abstract int shapeWidth(long shape);

        /** The two values on top of the stack become a PAIR. */
        abstract void join();

        /** The PAIR on top of the stack, the value of a part of node n, becomes what n takes of it. */
        abstract void takePart(int unit, int n, boolean second);

        /** Where a part of the PAIR that lies at an address lies. */
        abstract int partAddress(long shape, int address, boolean second);

        /** Calls unit 0 with what the input gives; the outcome. */
        int work(long argument, long result) {
            top = 0;
            heap = STACK;
            worked = 0;
            open = 0;
            report.begin();
            input.rewind();
            readValue(argument);
            openFunction(0);
            beginNode(bodyOf(0));
            for (int turn = 0; turn < MOST_TURNS && worked > 0 && report.goesOn(); turn++) {
                takeTurn();
            }
            if (report.goesOn()) {
                tellValue(result, top - shapeWidth(result));
            }
            return report.outcome();
        }

        private void openFunction(int unit) {
            if (open < 0 || open >= MOST_OPEN) {
                report.end(3);
                return;
            }
            openUnit[open] = unit;
            openArgument[open] = top - argumentWidth(unit);
            open++;
            report.noteOpen(open);
        }

        private void beginNode(int n) {
            if (report.countStep() > MOST_STEPS || worked < 0 || worked >= MOST_STEPS) {
                report.end(2);
                return;
            }
            workedNode[worked] = n;
            workedTurns[worked] = 0;
            worked++;
        }

        private void takeTurn() {
            int at = worked - 1;
            if (at < 0 || at >= MOST_STEPS) {
                return;
            }
            int n = workedNode[at];
            int turn = workedTurns[at];
            workedTurns[at] = turn + 1;
            int kind = nodes.kindOf(n);
            if (kind == Nodes.IF) {
                takeTurnOfIf(n, turn);
            } else if (kind == Nodes.CALL) {
                takeTurnOfCall(n, turn);
            } else if (turn < nodes.partsOf(kind)) {
                beginNode(nodes.partOf(n, turn));
            } else {
                worked--;
                finishNode(n, kind);
            }
        }

        private void takeTurnOfIf(int n, int turn) {
            if (turn == 0) {
                beginNode(nodes.partOf(n, 0));
            } else if (turn == 1) {
                beginNode(nodes.partOf(n, pop() != 0 ? 1 : 2));
            } else {
                worked--;
            }
        }

        private void takeTurnOfCall(int n, int turn) {
            if (turn == 0) {
                beginNode(nodes.partOf(n, 0));
            } else if (turn == 1) {
                openFunction(calledAt(unit(), n));
                if (report.goesOn()) {
                    beginNode(bodyOf(unit()));
                }
            } else {
                closeFunction();
                worked--;
            }
        }

        /** The function or copy that is worked. */
        private int unit() {
            int at = open - 1;
            return at >= 0 && at < MOST_OPEN ? openUnit[at] : NONE;
        }

        private void closeFunction() {
            int given = argumentWidth(unit());
            int taken = resultWidth(unit());
            keep(given + taken, given, taken);
            open--;
        }

        private void finishNode(int n, int kind) {
            switch (kind) {
                case Nodes.NUMBER:
                case Nodes.TRUTH:
                    push(nodes.wantedAt(n, 0));
                    break;
                case Nodes.ARGUMENT:
                    pushArgument();
                    break;
                case Nodes.ADD:
                    push(pop() + pop());
                    break;
                case Nodes.LESS:
                    // The second one lies on top.
                    push(pop() > pop() ? 1 : 0);
                    break;
                case Nodes.PAIR:
                    join();
                    break;
                case Nodes.FIRST:
                    takePart(unit(), n, false);
                    break;
                case Nodes.SECOND:
                    takePart(unit(), n, true);
                    break;
                case Nodes.NIL:
                    push(0);
                    break;
                case Nodes.LINK:
                    makeLink(n);
                    break;
                case Nodes.EMPTY:
                    push(pop() == 0 ? 1 : 0);
                    break;
                case Nodes.HEAD:
                    takeHead(n);
                    break;
                case Nodes.TAIL:
                    takeTail();
                    break;
                default:
                    break;
            }
        }

        private void pushArgument() {
            int at = open - 1;
            if (at >= 0 && at < MOST_OPEN) {
                pushFrom(openArgument[at], argumentWidth(openUnit[at]));
            }
        }

        private void makeLink(int n) {
            if (report.countLink() > MOST_LINKS) {
                report.end(4);
                return;
            }
            int tail = pop();
            push(storeLink(nodeWidth(unit(), nodes.partOf(n, 0)), tail));
        }

        private void takeHead(int n) {
            int link = pop();
            if (link == 0) {
                report.end(1);
                return;
            }
            pushFrom(link + 1, nodeWidth(unit(), n));
        }

        private void takeTail() {
            int link = pop();
            if (link == 0) {
                report.end(1);
                return;
            }
            push(cell(link));
        }

        /** Moves the head from the stack's top into a new link; where that lies. */
        private int storeLink(int headWidth, int tail) {
            int link = heap;
            heap += 1 + headWidth;
            setCell(link, tail);
            for (int i = 0; i < headWidth; i++) {
                setCell(link + 1 + i, cell(top - headWidth + i));
            }
            top -= headWidth;
            return link;
        }

        /** Pushes a value of a type as the input gives it; the type's depth bounds the recursion. */
        private void readValue(long shape) {
            switch (Shape.kindOf(shape)) {
                case Shape.TRUTH:
                    push(input.next() != 0 ? 1 : 0);
                    break;
                case Shape.PAIR:
                    readValue(Shape.firstOf(shape));
                    readValue(Shape.secondOf(shape));
                    join();
                    break;
                case Shape.LIST:
                    int length = Math.max(0, Math.min(MOST_GIVEN, input.next()));
                    long of = Shape.firstOf(shape);
                    int first = 0;
                    int before = 0;
                    for (int i = 0; i < length; i++) {
                        readValue(of);
                        int link = storeLink(shapeWidth(of), 0);
                        if (i == 0) {
                            first = link;
                        } else {
                            setCell(before, link);
                        }
                        before = link;
                    }
                    push(first);
                    break;
                default:
                    push(input.next());
                    break;
            }
        }

        /** Tells a value that lies at an address into the report. */
        private void tellValue(long shape, int address) {
            switch (Shape.kindOf(shape)) {
                case Shape.PAIR:
                    tellValue(Shape.firstOf(shape), partAddress(shape, address, false));
                    tellValue(Shape.secondOf(shape), partAddress(shape, address, true));
                    break;
                case Shape.LIST:
                    int first = cell(address);
                    int length = chainLength(first);
                    report.add(length);
                    int link = first;
                    for (int i = 0; i < length && !report.isFull(); i++) {
                        tellValue(Shape.firstOf(shape), link + 1);
                        link = cell(link);
                    }
                    break;
                default:
                    report.add(cell(address));
                    break;
            }
        }

        private int chainLength(int first) {
            int length = 0;
            for (int link = first; link != 0 && length < LONGEST; link = cell(link)) {
                length++;
            }
            return length;
        }

        final int cell(int address) {
            return address >= 0 && address < CELLS ? cells[address] : 0;
        }

        private void setCell(int address, int v) {
            if (address >= 0 && address < CELLS) {
                cells[address] = v;
            }
        }

        final void push(int v) {
            setCell(top, v);
            top++;
        }

        final int pop() {
            top--;
            return cell(top);
        }

        private void pushFrom(int address, int width) {
            for (int i = 0; i < width; i++) {
                push(cell(address + i));
            }
        }

        /** Of the stack's last cells only some stay. */
        final void keep(int last, int from, int width) {
            int start = top - last;
            for (int i = 0; i < width; i++) {
                setCell(start + i, cell(start + from + i));
            }
            top = start + width;
        }

        /** Takes cells of the heap; where they begin. */
        final int storeTwo(int first, int second) {
            int address = heap;
            heap += 2;
            setCell(address, first);
            setCell(address + 1, second);
            return address;
        }
    }

    /** Works functions with their letters: as a letter may stand for any type, each value is one cell. */
    private static final class LetterMachine extends Machine {
        private final Functions functions;

        LetterMachine(Nodes nodes, Input input, Report report, Functions functions) {
            super(nodes, input, report);
            this.functions = functions;
        }

        int bodyOf(int unit) {
            return functions.bodyOf(unit);
        }

        int calledAt(int unit, int call) {
            return nodes.wantedAt(call, 0);
        }

        int argumentWidth(int unit) {
            return 1;
        }

        int resultWidth(int unit) {
            return 1;
        }

        int nodeWidth(int unit, int n) {
            return 1;
        }

        int shapeWidth(long shape) {
            return 1;
        }

        void join() {
            int second = pop();
            int first = pop();
            push(storeTwo(first, second));
        }

        void takePart(int unit, int n, boolean second) {
            int address = pop();
            push(cell(second ? address + 1 : address));
        }

        int partAddress(long shape, int address, boolean second) {
            return second ? cell(address) + 1 : cell(address);
        }
    }

    /** Works copies: a PAIR's parts lie side by side, so it takes as many cells as its WIDTH. */
    private static final class CopyMachine extends Machine {
        private final Functions functions;
        private final Copies copyRows;

        CopyMachine(Nodes nodes, Input input, Report report, Functions functions, Copies copyRows) {
            super(nodes, input, report);
            this.functions = functions;
            this.copyRows = copyRows;
        }

        int bodyOf(int unit) {
            return functions.bodyOf(copyRows.functionOf(unit));
        }

        int calledAt(int unit, int call) {
            return copyRows.calledAt(unit, call);
        }

        int argumentWidth(int unit) {
            return copyRows.argumentWidth(unit);
        }

        int resultWidth(int unit) {
            return copyRows.resultWidth(unit);
        }

        int nodeWidth(int unit, int n) {
            return copyRows.widthAt(unit, n);
        }

        int shapeWidth(long shape) {
            return Shape.widthOf(shape);
        }

        void join() {
            // The two lie side by side already.
        }

        void takePart(int unit, int n, boolean second) {
            int whole = nodeWidth(unit, nodes.partOf(n, 0));
            int width = nodeWidth(unit, n);
            keep(whole, second ? whole - width : 0, width);
        }

        int partAddress(long shape, int address, boolean second) {
            return second ? address + Shape.widthOf(Shape.firstOf(shape)) : address;
        }
    }
}
