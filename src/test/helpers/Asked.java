/** A TypeCopier that is asked no more than the 512 calls for which the document promises answers. */
final class Asked {
    private static final int MOST = 512;

    private final TypeCopier x = new TypeCopier();
    private int calls;

    private TypeCopier one() {
        calls++;
        if (calls > MOST) {
            throw new IllegalStateException("the test asks one object more than " + MOST + " calls");
        }
        return x;
    }

    int pair(int t, int u) {
        return one().pair(t, u);
    }

    int list(int t) {
        return one().list(t);
    }

    int type(int t, int what) {
        return one().type(t, what);
    }

    int node(int kind, int a, int b, int c, int d) {
        return one().node(kind, a, b, c, d);
    }

    int function(int letters, int argument, int result) {
        return one().function(letters, argument, result);
    }

    int body(int function, int node) {
        return one().body(function, node);
    }

    int typeIn(int function, int node) {
        return one().typeIn(function, node);
    }

    int wrong(int function) {
        return one().wrong(function);
    }

    int reaches(int function, int other) {
        return one().reaches(function, other);
    }

    int judge() {
        return one().judge();
    }

    int copies() {
        return one().copies();
    }

    int copy(int i, int what) {
        return one().copy(i, what);
    }

    int input(int v) {
        return one().input(v);
    }

    int empty() {
        return one().empty();
    }

    int run() {
        return one().run();
    }

    int runCopies() {
        return one().runCopies();
    }

    int result(int i) {
        return one().result(i);
    }

    int told(int what) {
        return one().told(what);
    }

    int count(int what) {
        return one().count(what);
    }

    long digest() {
        return one().digest();
    }

    // ---- short ways to write nodes

    int number(int n) {
        return node(0, n, 0, 0, 0);
    }

    int truth(int n) {
        return node(1, n, 0, 0, 0);
    }

    int argument() {
        return node(2, 0, 0, 0, 0);
    }

    int on(int kind, int a) {
        return node(kind, a, 0, 0, 0);
    }

    int on(int kind, int a, int b) {
        return node(kind, a, b, 0, 0);
    }

    int choose(int a, int b, int c) {
        return node(5, a, b, c, 0);
    }

    int call(int f, int a, int t, int u) {
        return node(14, f, a, t, u);
    }

    int call(int f, int a) {
        return node(14, f, a, -1, -1);
    }
}
