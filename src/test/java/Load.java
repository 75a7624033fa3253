/** Texts that take as many STEPS as a test wants, behind SIGNATURE. */
final class Load {
    static final String SIGNATURE = "id : nat > nat = [ x : nat ] x . "
            + "c2 : ( nat > nat ) > nat > nat = [ f : nat > nat ] [ x : nat ] f ( f x ) . "
            + "c4 : ( nat > nat ) > nat > nat = [ f : nat > nat ] c2 ( c2 f ) . "
            + "c16 : ( nat > nat ) > nat > nat = [ f : nat > nat ] c4 ( c4 f ) . "
            + "c256 : ( nat > nat ) > nat > nat = [ f : nat > nat ] c16 ( c16 f ) . "
            + "k1 : nat = z . k2 : nat = k1 . k3 : nat = k2 . k4 : nat = k3 . ";

    private static final String[] AROUND = {"c256 ( c4 id )", "c256 id", "c16 id", "c4 id", "c2 id", "id"};
    private static final int MOST_AROUND = 18;

    private Load() { }

    /**
     * A number (it is z) whose canon takes so many STEPS more than that of z: each of AROUND takes
     * as many wherever it stands, and the definitions k1 .. k4 take one to four.
     */
    static String number(int steps) {
        StringBuilder text = new StringBuilder();
        int left = steps;
        int around = 0;
        for (String one : AROUND) {
            int each = stepsOf(one + " z") - stepsOf("z");
            for (; left >= each; left -= each) {
                text.append(one).append(" ( ");
                around++;
            }
        }
        if (around > MOST_AROUND || left > 4) throw new IllegalStateException("no text takes " + steps);
        return text + (left == 0 ? "z" : "k" + left) + " )".repeat(around);
    }

    private static int stepsOf(String text) {
        Bench bench = new Bench();
        bench.declare(Sentences.NAT + SIGNATURE);
        bench.canon(text);
        return bench.it.count(2);
    }

    /** Takes STEPS until there are so many in all. */
    static void drain(Bench bench, int until) {
        while (bench.it.count(1) < until) {
            int left = until - bench.it.count(1);
            bench.canon(left > 20000 ? "c256 ( c256 id ) z" : left > 2000 ? number(left % 1000 + 900) : left > 200 ? "c16 id z" : "what");
        }
    }
}
