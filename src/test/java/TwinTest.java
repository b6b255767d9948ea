import java.util.Arrays;

/** All promises: made-up runs of 512 calls, each answered as a Twin answers it. */
public final class TwinTest {
    private static final String[] CALLS = {"line", "decoy", "wrong", "input", "wipe", "told", "needs", "orders", "right",
        "which", "lay", "take", "move", "clear", "at", "size", "run", "printed", "value", "alike", "mark", "kept", "hint",
        "follow", "count", "digest"};
    private static final int[] EDGES = {Integer.MIN_VALUE, Integer.MIN_VALUE + 1, -2, -1, 16, 17, 31, 32, 33, 64,
        Integer.MAX_VALUE - 1, Integer.MAX_VALUE};
    private static final Check CHECK = new Check("TwinTest");

    private final BlockMarker x = new BlockMarker();
    private final Twin twin = new Twin();
    private final int run;
    private long seed;
    private int made;

    /** How the made-up programs are: few VARIABLES bind LINES tightly, many NOTES leave them free. */
    private final int variables;
    private final boolean manyNotes;

    private TwinTest(int run) {
        this.run = run;
        // Spread out, as the first numbers behind small seeds are much alike.
        seed = run * 0x9E3779B97F4A7C15L;
        variables = 1 + below(6);
        manyNotes = below(4) == 0;
    }

    public static void main(String[] args) {
        for (int run = 0; run < 300; run++) {
            new TwinTest(run).calls();
        }
        CHECK.end();
    }

    private int below(int bound) {
        seed = seed * 6364136223846793005L + 1442695040888963407L;
        return (int) ((seed >>> 33) % bound);
    }

    /** Mostly a number that may fit, at times one that can't. */
    private int some(int bound) {
        return below(20) == 0 ? EDGES[below(EDGES.length)] : below(bound);
    }

    private int someLine() {
        return some((int) twin.count(0) + 1);
    }

    private int somePlace() {
        return some((int) twin.size() + 2);
    }

    private int someKind() {
        return manyNotes && below(3) > 0 ? 5 : some(7);
    }

    private int someInt() {
        return below(4) == 0 ? EDGES[below(EDGES.length)] : below(9) - 4;
    }

    /** LINES and INPUTS come in a row; then THE ANSWER, which bars them, is laid, changed and asked about. */
    private void calls() {
        while (made < 512) {
            int lines = 8 + below(18);
            for (int i = 0; i < lines; i++) {
                one(below(16) == 0 ? CALLS[below(CALLS.length)] : someThatBrings());
            }
            for (int rounds = 1 + below(3); rounds > 0; rounds--) {
                layMany();
                changeAndAsk(below(90));
                one("clear");
            }
            one("wipe");
        }
    }

    private String someThatBrings() {
        int which = below(11);
        return which < 6 ? "line" : which < 7 ? "decoy" : which < 9 ? "wrong" : "input";
    }

    /** Most of the MODEL, or of all LINES: made-up calls of lay() alone seldom come so far. */
    private void layMany() {
        boolean othersToo = below(3) == 0;
        for (int l = 0; l < twin.count(0); l++) {
            boolean ofModel = twin.told(l, 3) == 0;
            long place = below(3) == 0 ? twin.size() : below((int) twin.size() + 1);
            if (ofModel && twin.told(l, 4) != BlockMarker.NONE && below(2) == 0) {
                one("lay", twin.told(l, 4), place);
            } else if (below(12) > 0 && (ofModel || othersToo)) {
                one("lay", l, place);
            }
        }
    }

    private void changeAndAsk(int many) {
        for (int i = 0; i < many; i++) {
            String call = CALLS[below(CALLS.length)];
            boolean ends = call.equals("wipe") || call.equals("clear");
            one(ends && below(20) > 0 ? "move" : below(12) == 0 ? "follow" : call);
        }
    }

    private void one(String call) {
        one(call, argumentsOf(call));
    }

    private void one(String call, long... a) {
        // What later calls answer is free.
        if (made < 512) {
            made++;
            CHECK.same("run " + run + ", call " + made + ": " + call + Arrays.toString(a), answerOf(call, a), dueOf(call, a));
        }
    }

    private long[] argumentsOf(String call) {
        return switch (call) {
            case "line", "decoy" -> new long[] {someKind(), some(variables), some(variables)};
            case "wrong" -> new long[] {someLine(), someKind(), some(variables), some(variables)};
            case "input" -> new long[] {someInt(), someInt(), someInt(), someInt(), someInt(), someInt()};
            case "told" -> new long[] {someLine(), some(5)};
            case "needs" -> new long[] {someLine(), someLine()};
            case "right" -> new long[] {someOrder(), some((int) twin.count(1) + 1)};
            case "lay" -> new long[] {someLine(), somePlace()};
            case "move" -> new long[] {somePlace(), somePlace()};
            case "take", "at", "kept" -> new long[] {somePlace()};
            case "run" -> new long[] {some((int) twin.count(4) + 1), below(2)};
            case "printed" -> new long[] {some(6)};
            case "value" -> new long[] {some(6)};
            case "hint" -> new long[] {some(3)};
            case "count" -> new long[] {some(7)};
            default -> new long[0];
        };
    }

    private long someOrder() {
        long many = twin.orders();
        return switch (below(8)) {
            case 0 -> many;
            case 1 -> many - 1;
            case 2 -> (long) some(9) << 31;
            default -> below(1 << 30) % many;
        };
    }

    private long answerOf(String call, long[] long64) {
        int[] a = Arrays.stream(long64).mapToInt(n -> (int) n).toArray();
        return switch (call) {
            case "line" -> x.line(a[0], a[1], a[2]);
            case "decoy" -> x.decoy(a[0], a[1], a[2]);
            case "wrong" -> x.wrong(a[0], a[1], a[2], a[3]);
            case "input" -> x.input(a[0], a[1], a[2], a[3], a[4], a[5]);
            case "wipe" -> x.wipe();
            case "told" -> x.told(a[0], a[1]);
            case "needs" -> x.needs(a[0], a[1]);
            case "orders" -> x.orders();
            case "right" -> x.right(long64[0], a[1]);
            case "which" -> x.which();
            case "lay" -> x.lay(a[0], a[1]);
            case "take" -> x.take(a[0]);
            case "move" -> x.move(a[0], a[1]);
            case "clear" -> x.clear();
            case "at" -> x.at(a[0]);
            case "size" -> x.size();
            case "run" -> x.run(a[0], a[1] != 0);
            case "printed" -> x.printed(a[0]);
            case "value" -> x.value(a[0]);
            case "alike" -> x.alike();
            case "mark" -> x.mark();
            case "kept" -> x.kept(a[0]);
            case "hint" -> x.hint(a[0]);
            case "follow" -> x.follow();
            case "count" -> x.count(a[0]);
            default -> x.digest();
        };
    }

    private long dueOf(String call, long[] long64) {
        int[] a = Arrays.stream(long64).mapToInt(n -> (int) n).toArray();
        return switch (call) {
            case "line" -> twin.line(a[0], a[1], a[2]);
            case "decoy" -> twin.decoy(a[0], a[1], a[2]);
            case "wrong" -> twin.wrong(a[0], a[1], a[2], a[3]);
            case "input" -> twin.input(a);
            case "wipe" -> twin.wipe();
            case "told" -> twin.told(a[0], a[1]);
            case "needs" -> twin.needs(a[0], a[1]);
            case "orders" -> twin.orders();
            case "right" -> twin.right(long64[0], a[1]);
            case "which" -> twin.which();
            case "lay" -> twin.lay(a[0], a[1]);
            case "take" -> twin.take(a[0]);
            case "move" -> twin.move(a[0], a[1]);
            case "clear" -> twin.clear();
            case "at" -> twin.at(a[0]);
            case "size" -> twin.size();
            case "run" -> twin.run(a[0], a[1] != 0);
            case "printed" -> twin.printed(a[0]);
            case "value" -> twin.value(a[0]);
            case "alike" -> twin.alike();
            case "mark" -> twin.mark();
            case "kept" -> twin.kept(a[0]);
            case "hint" -> twin.hint(a[0]);
            case "follow" -> twin.follow();
            case "count" -> twin.count(a[0]);
            default -> twin.digest();
        };
    }
}
