/** A WideNames that is asked no more than the document promises to answer: 512 calls. */
final class Names {
    static final int MOST_CALLS = 512;

    private final WideNames names = new WideNames();
    private int calls = 0;

    private WideNames next() {
        calls++;
        if (calls > MOST_CALLS) {
            throw new IllegalStateException("a test makes more than " + MOST_CALLS + " calls of one object");
        }
        return names;
    }

    /** How many calls may still be made. */
    int left() {
        return MOST_CALLS - calls;
    }

    int feed(long v, int n) {
        return next().feed(v, n);
    }

    int read() {
        return next().read();
    }

    int point(int i) {
        return next().point(i);
    }

    int add(int point) {
        return next().add(point);
    }

    int status(int first, int last, int status) {
        return next().status(first, last, status);
    }

    int map(int point) {
        return next().map(point);
    }

    int parts(int point, int a, int b, boolean excluded) {
        return next().parts(point, a, b, excluded);
    }

    int rank(int point, int rank) {
        return next().rank(point, rank);
    }

    int range(int kind, int first, int last, int v) {
        return next().range(kind, first, last, v);
    }

    int about(int point, int what) {
        return next().about(point, what);
    }

    int form(int kind) {
        return next().form(kind);
    }

    int inForm() {
        return next().inForm();
    }

    int alike() {
        return next().alike();
    }

    int encode() {
        return next().encode();
    }

    int decode() {
        return next().decode();
    }

    int make(boolean plain) {
        return next().make(plain);
    }

    int fault(int what) {
        return next().fault(what);
    }

    int octet(int i) {
        return next().octet(i);
    }
}
