/** A FrameBench that takes texts, for the tests. */
final class Bench {
    final FrameBench it = new FrameBench();
    private final Oracle oracle;
    private final StringBuilder told = new StringBuilder();
    int differences;

    Bench() { this(false); }

    /** With an Oracle beside it, every answer is held against the Oracle's. */
    Bench(boolean withOracle) { oracle = withOracle ? new Oracle() : null; }

    /** Eight signs of a text as a long, highest first; 0 behind its end. */
    static long eight(String text, int from) {
        long all = 0;
        for (int i = from; i < from + 8; i++) all = all << 8 | (i < text.length() ? text.charAt(i) & 255 : 0);
        return all;
    }

    Bench feed(String text) {
        for (int i = 0; i < text.length(); i += 24) {
            long a = eight(text, i), b = eight(text, i + 8), c = eight(text, i + 16);
            int got = it.feed(a, b, c);
            if (oracle != null) same("feed", got, oracle.feed(a, b, c));
        }
        if (oracle != null) told.append("\n  ").append(text);
        return this;
    }

    int declare(String text) {
        feed(text);
        int got = it.declare();
        if (oracle != null) { same("declare", got, oracle.declare()); sameState(); }
        return got;
    }

    int canon(String text) {
        feed(text);
        int got = it.canon();
        if (oracle != null) { same("canon", got, oracle.canon()); sameState(); }
        return got;
    }

    int type(String text) {
        feed(text);
        int got = it.type();
        if (oracle != null) { same("type", got, oracle.type()); sameState(); }
        return got;
    }

    int equal(String text) {
        feed(text);
        int got = it.equal();
        if (oracle != null) { same("equal", got, oracle.equal()); sameState(); }
        return got;
    }

    int named(String text) {
        feed(text);
        int got = it.named();
        if (oracle != null) { same("named", got, oracle.named()); sameState(); }
        return got;
    }

    int forget(int n) {
        int got = it.forget(n);
        if (oracle != null) { same("forget", got, oracle.forget(n)); sameState(); }
        return got;
    }

    String out() {
        StringBuilder all = new StringBuilder();
        for (int i = 0; i < it.size(); i++) all.append((char) it.out(i));
        return all.toString();
    }

    private void sameState() {
        for (int what = -1; what <= 4; what++) same("count " + what, it.count(what), oracle.count(what));
        same("size", it.size(), oracle.size());
        for (int i = -1; i <= it.size(); i++) same("out " + i, it.out(i), oracle.out(i));
        for (int k = -1; k <= it.count(0); k++) {
            for (int what = -1; what <= 2; what++) {
                same("constant " + k + " " + what, it.constant(k, what), oracle.constant(k, what));
            }
        }
    }

    private void same(String call, int got, int want) {
        if (got == want) return;
        if (differences++ == 0) System.out.println(call + " answered " + got + ", the Oracle " + want + ", after:" + told);
    }
}
