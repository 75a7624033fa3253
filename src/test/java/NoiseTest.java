import java.util.Random;

/** Calls of all kinds with arguments of all kinds, more than a run may have: none may throw. */
public final class NoiseTest {
    private static final String[] TOKENS = {"{", "}", "[", "]", "(", ")", ":", ".", "=", ";", ">", "type", "x", "a", "b",
        "c", " ", "\n", "#", "0", "abcdefghijklmn", "x : a ] ", "[ x : a ] ", "{ x : a } ", "a : type . ", "b : a . ", "c : a > a . ", " b ", "c b "};
    private static final int[] EDGES = {0, 1, 2, 3, 4, -1, -2, 99, 100, 101, 1999, 2000, 4000, Integer.MAX_VALUE, Integer.MIN_VALUE};

    public static void main(String[] args) {
        for (int seed = 0; seed < 40; seed++) run(new Random(seed * 0x9E3779B97F4A7C15L));
        longest();
        System.out.println("noise: nothing was thrown");
    }

    private static void run(Random dice) {
        FrameBench it = new FrameBench();
        for (int call = 0; call < 3000; call++) {
            int edge = EDGES[dice.nextInt(EDGES.length)];
            switch (dice.nextInt(20)) {
                case 0: it.declare(); break;
                case 1: it.canon(); break;
                case 2: it.type(); break;
                case 3: it.equal(); break;
                case 4: it.named(); break;
                case 5: it.constant(edge, EDGES[dice.nextInt(EDGES.length)]); break;
                case 6: it.out(edge); break;
                case 7: it.forget(dice.nextInt(5) == 0 ? edge : dice.nextInt(2)); break;
                case 8: it.count(edge); break;
                case 9: it.size(); break;
                case 10: it.feed(dice.nextLong(), dice.nextLong(), dice.nextLong()); break;
                default: {
                    StringBuilder text = new StringBuilder();
                    while (text.length() < 24) text.append(TOKENS[dice.nextInt(TOKENS.length)]);
                    String all = text.toString();
                    it.feed(Bench.eight(all, 0), Bench.eight(all, 8), Bench.eight(all, 16));
                }
            }
        }
    }

    /** Texts as long as the tape, until every row is full. */
    private static void longest() {
        Bench bench = new Bench();
        bench.declare("a : type . b : a . f : a > a > a . ");
        for (int i = 0; i < 120; i++) {
            StringBuilder text = new StringBuilder("d" + i + " : a = f b b . ");
            for (int k = 0; text.length() < 3900; k++) {
                text.append("e").append(i).append("x").append(k).append(":a=f (f b b) (f (f b b)(f b b)).");
            }
            bench.declare(text.toString());
            bench.canon("f d" + i + " b");
            if (i % 7 == 0) bench.forget(3);
        }
    }
}
