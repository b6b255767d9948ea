/** Any arguments in any state: no call throws, refusals change nothing, the same calls answer the same. */
public final class AnyCallsTest {
    private static final Check CHECK = new Check("AnyCallsTest");
    private static final int[] EDGES = {Integer.MIN_VALUE, Integer.MIN_VALUE + 1, -105, -1, 16, 17, 31, 32, 64,
        Integer.MAX_VALUE - 1, Integer.MAX_VALUE};
    private static long seed;

    private static int below(int bound) {
        seed = seed * 6364136223846793005L + 1442695040888963407L;
        return (int) ((seed >>> 33) % bound);
    }

    /** Mostly a number that may fit, at times one that can't. */
    private static int some(int bound) {
        return below(12) == 0 ? EDGES[below(EDGES.length)] : below(bound);
    }

    public static void main(String[] args) {
        for (int run = 0; run < 1500; run++) {
            CHECK.same("run " + run + " twice", digestOfRun(run), digestOfRun(run));
        }
        CHECK.end();
    }

    private static long digestOfRun(int run) {
        seed = run;
        BlockMarker x = new BlockMarker();
        long h = 0;
        // Five calls a step at most: an object's answers are free behind its 512th call.
        for (int i = 0; i < 100; i++) {
            long before = x.digest();
            // The first calls bring LINES, later ones seldom do, for an ANSWER bars them.
            int call = i < 24 ? below(4) : below(100) == 0 ? 4 : below(28);
            long got = oneCall(x, call);
            if (got <= BlockMarker.UNKNOWN && got >= BlockMarker.FULL && call < 20) {
                CHECK.same("digest() behind a refusal of call " + call, x.digest(), before);
            }
            CHECK.isTrue("size() is 0 to 16", x.size() >= 0 && x.size() <= 16);
            h = 31 * h + got;
        }
        return 31 * h + x.digest();
    }

    private static long oneCall(BlockMarker x, int call) {
        switch (call) {
            case 0: return x.line(some(7), some(6), some(6));
            case 1: return x.decoy(some(7), some(6), some(6));
            case 2: return x.wrong(some(16), some(7), some(6), some(6));
            case 3: return x.input(some(9), some(9), some(9), some(9), some(9), some(9));
            case 4: return below(6) == 0 ? x.wipe() : x.clear();
            case 5: return x.told(some(16), some(5));
            case 6: return x.needs(some(16), some(16));
            case 7: return x.orders();
            case 8: return x.right(below(3) == 0 ? (long) some(9) << 31 : some(1000), some(12));
            case 9: return x.which();
            case 10: return x.take(some(16));
            case 11: return x.move(some(16), some(16));
            case 12: return x.at(some(16));
            case 13: return x.mark();
            case 14: return x.kept(some(16));
            case 15: return x.hint(some(3));
            case 16: return below(4) == 0 ? x.follow() : x.alike();
            case 17: return x.count(some(7));
            case 18: return x.alike();
            case 19: return x.run(some(8), below(2) == 0);
            case 20: return x.printed(some(16));
            case 21: return x.value(some(6));
            default: return x.lay(some(16), some(x.size() + 1));
        }
    }
}
