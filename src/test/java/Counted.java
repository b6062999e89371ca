/** An object of the program with its calls counted: what it answers behind the 512th is free, so no test may use it. */
final class Counted {
    static final int MOST = 512;

    private final SecretEnds x = new SecretEnds();
    private int calls = 0;

    int calls() {
        return calls;
    }

    private SecretEnds next() {
        calls++;
        if (calls == MOST + 1) {
            Check.due("a test's calls on one object", calls, MOST);
        }
        return x;
    }

    int feed(int a, int b, int c, int d, int e) {
        return next().feed(a, b, c, d, e);
    }

    int end(int n) {
        return next().end(n);
    }

    int make(boolean server) {
        return next().make(server);
    }

    boolean tell(int end, int what) {
        return next().tell(end, what);
    }

    boolean start(int end) {
        return next().start(end);
    }

    int say(int end) {
        return next().say(end);
    }

    int update(int end, int ask) {
        return next().update(end, ask);
    }

    boolean close(int end) {
        return next().close(end);
    }

    int carry(int from, int to) {
        return next().carry(from, to);
    }

    int give(int end) {
        return next().give(end);
    }

    boolean meddle(int end, int what) {
        return next().meddle(end, what);
    }

    boolean alter(int end, int i, int mask) {
        return next().alter(end, i, mask);
    }

    int written(int end, int k, int i) {
        return next().written(end, k, i);
    }

    int given(int end, int i) {
        return next().given(end, i);
    }

    int secret(int end, int what, int i) {
        return next().secret(end, what, i);
    }

    int state(int end, int what) {
        return next().state(end, what);
    }

    int hash(int i) {
        return next().hash(i);
    }

    int about(int what) {
        return next().about(what);
    }
}
