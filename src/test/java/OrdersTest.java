/** Promises 8 to 11: needs, orders, right, which. */
public final class OrdersTest {
    private static final Check CHECK = new Check("OrdersTest");

    public static void main(String[] args) {
        directNeeds();
        chainsOfNeeds();
        needsOfOthers();
        orders();
        right();
        which();
        CHECK.end();
    }

    private static int needsOf(int[] a, int[] b) {
        BlockMarker x = new BlockMarker();
        x.line(a[0], a[1], a[2]);
        x.line(b[0], b[1], b[2]);
        CHECK.same("never the later ahead", x.needs(1, 0), 0);
        CHECK.same("never itself ahead", x.needs(0, 0), 0);
        return x.needs(0, 1);
    }

    /** v and w differ in each LINE, so that what is read and what is written can be told apart. */
    private static void directNeeds() {
        int[] set0 = {0, 0, 1};
        int[] set1 = {0, 1, 0};
        int[] copy01 = {1, 0, 1};
        int[] copy12 = {1, 1, 2};
        int[] copy21 = {1, 2, 1};
        int[] print0 = {4, 0, 1};
        int[] print1 = {4, 1, 0};
        int[] note = {5, 0, 0};
        CHECK.same("SET 0, SET 0: both WRITE", needsOf(set0, set0), 1);
        CHECK.same("SET 0, SET 1", needsOf(set0, set1), 0);
        CHECK.same("SET 1, COPY 0 1: WRITES what it READS", needsOf(set1, copy01), 1);
        CHECK.same("COPY 0 1, SET 1: READS what it WRITES", needsOf(copy01, set1), 1);
        CHECK.same("COPY 0 1, SET 0", needsOf(copy01, set0), 1);
        CHECK.same("COPY 0 1, COPY 2 1: both READ", needsOf(copy01, copy21), 0);
        CHECK.same("COPY 0 1, COPY 1 2", needsOf(copy01, copy12), 1);
        CHECK.same("COPY does not READ v: PRINT 0, COPY 0 1", needsOf(print0, copy01), 1);
        CHECK.same("PRINT 0, COPY 2 1", needsOf(print0, copy21), 0);
        CHECK.same("PRINT 0, PRINT 1: both PRINT", needsOf(print0, print1), 1);
        CHECK.same("PRINT 0, SET 1: w is not looked at", needsOf(print0, set1), 0);
        CHECK.same("SET 1, PRINT 0: w is not looked at", needsOf(set1, print0), 0);
        CHECK.same("SET 0, PRINT 0", needsOf(set0, print0), 1);
        CHECK.same("SET READS nothing: SET 1, SET 0 with w 1", needsOf(set1, set0), 0);
        CHECK.same("NOTE, SET 0", needsOf(note, set0), 0);
        CHECK.same("SET 0, NOTE", needsOf(set0, note), 0);
        CHECK.same("NOTE, NOTE", needsOf(note, note), 0);
        for (int kind : new int[] {2, 3, 6}) {
            int[] both = {kind, 0, 1};
            CHECK.same("SET 0 ahead of KIND " + kind, needsOf(set0, both), 1);
            CHECK.same("SET 1 ahead of KIND " + kind, needsOf(set1, both), 1);
            CHECK.same("KIND " + kind + " ahead of SET 1", needsOf(both, set1), 1);
            CHECK.same("KIND " + kind + " ahead of PRINT 0", needsOf(both, print0), 1);
            CHECK.same("KIND " + kind + ", PRINT 1: both READ", needsOf(both, print1), 0);
            CHECK.same("KIND " + kind + ", COPY 2 1: both READ", needsOf(both, copy21), 0);
        }
    }

    private static void chainsOfNeeds() {
        BlockMarker x = new BlockMarker();
        x.line(0, 0, 1);
        x.decoy(0, 1, 0);
        x.line(1, 1, 0);
        x.line(1, 2, 1);
        x.line(4, 2, 0);
        x.line(4, 5, 0);
        x.line(5, 0, 0);
        CHECK.same("by two steps", x.needs(0, 3), 1);
        CHECK.same("by three steps", x.needs(0, 4), 1);
        CHECK.same("by a step of two PRINTS at last", x.needs(0, 5), 1);
        CHECK.same("a NOTE is apart", x.needs(0, 6), 0);
        CHECK.same("pairs", x.count(5), 10);
    }

    private static void needsOfOthers() {
        BlockMarker x = new BlockMarker();
        x.line(0, 0, 1);
        x.decoy(0, 0, 1);
        x.wrong(0, 0, 0, 2);
        x.line(0, 0, 3);
        CHECK.same("needs(0, 1): a DECOY", x.needs(0, 1), 0);
        CHECK.same("needs(1, 3): a DECOY", x.needs(1, 3), 0);
        CHECK.same("needs(2, 3): WRONG", x.needs(2, 3), 0);
        CHECK.same("needs(0, 3)", x.needs(0, 3), 1);
        CHECK.same("needs(0, 4)", x.needs(0, 4), BlockMarker.UNKNOWN);
        CHECK.same("needs(4, 0)", x.needs(4, 0), BlockMarker.UNKNOWN);
        CHECK.same("needs(-1, 0)", x.needs(-1, 0), BlockMarker.UNKNOWN);
        CHECK.same("needs(0, MIN)", x.needs(0, Integer.MIN_VALUE), BlockMarker.UNKNOWN);
        CHECK.same("needs(MAX, 0)", x.needs(Integer.MAX_VALUE, 0), BlockMarker.UNKNOWN);
    }

    private static void orders() {
        long factorial = 1;
        for (int n = 1; n <= 12; n++) {
            factorial *= n;
            CHECK.same(n + " NOTES", Samples.notes(n).orders(), factorial);
            CHECK.same(n + " PRINTS", Samples.prints(n).orders(), 1);
        }
        BlockMarker x = Samples.sums();
        CHECK.same("orders()", x.orders(), 4);
        x.decoy(5, 0, 0);
        CHECK.same("orders() with one DECOY more", x.orders(), 4);
        x.line(5, 0, 0);
        CHECK.same("orders() with one NOTE more", x.orders(), 28);
        x.wipe();
        CHECK.same("orders() behind wipe()", x.orders(), 1);
    }

    private static void right() {
        BlockMarker x = Samples.sums();
        int[][] want = {{0, 1, 2, 3, 4, 5}, {0, 1, 2, 4, 3, 5}, {1, 0, 2, 3, 4, 5}, {1, 0, 2, 4, 3, 5}};
        for (int k = 0; k < want.length; k++) {
            for (int i = 0; i < 6; i++) {
                CHECK.same("right(" + k + ", " + i + ")", x.right(k, i), want[k][i]);
            }
        }
        CHECK.same("right(4, 0)", x.right(4, 0), BlockMarker.NONE);
        CHECK.same("right(-1, 0)", x.right(-1, 0), BlockMarker.NONE);
        CHECK.same("right(0, 6)", x.right(0, 6), BlockMarker.NONE);
        CHECK.same("right(0, -1)", x.right(0, -1), BlockMarker.NONE);
        CHECK.same("right(2^32, 0): k is a long", x.right(1L << 32, 0), BlockMarker.NONE);
        CHECK.same("right(MIN, 0)", x.right(Long.MIN_VALUE, 0), BlockMarker.NONE);
        CHECK.same("right(MAX, MAX)", x.right(Long.MAX_VALUE, Integer.MAX_VALUE), BlockMarker.NONE);
        CHECK.same("no LINES: right(0, 0)", new BlockMarker().right(0, 0), BlockMarker.NONE);
        BlockMarker apart = new BlockMarker();
        apart.decoy(5, 0, 0);
        apart.line(5, 0, 0);
        apart.decoy(5, 0, 0);
        apart.line(5, 0, 0);
        CHECK.same("numbers, not ranks: right(1, 0)", apart.right(1, 0), 3);
        CHECK.same("numbers, not ranks: right(1, 1)", apart.right(1, 1), 1);
    }

    private static void which() {
        BlockMarker x = Samples.sums();
        CHECK.same("which() of nothing", x.which(), BlockMarker.NONE);
        Samples.layAll(x, 1, 0, 2, 4, 3);
        CHECK.same("which() with one missing", x.which(), BlockMarker.NONE);
        x.lay(5, 5);
        CHECK.same("which()", x.which(), 3);
        x.lay(6, 6);
        CHECK.same("which() with a DECOY more", x.which(), BlockMarker.NONE);
        x.take(6);
        x.take(2);
        x.lay(7, 2);
        CHECK.same("which() with a WRONG LINE", x.which(), BlockMarker.NONE);
        x.take(2);
        x.lay(2, 5);
        CHECK.same("which() out of order", x.which(), BlockMarker.NONE);
        BlockMarker decoys = new BlockMarker();
        decoys.decoy(5, 0, 0);
        CHECK.same("which() of nothing, with no MODEL", decoys.which(), 0);
        decoys.lay(0, 0);
        CHECK.same("which() of a DECOY, with no MODEL", decoys.which(), BlockMarker.NONE);
        BlockMarker notes = Samples.notes(4);
        for (int k = 0; k < 24; k++) {
            notes.clear();
            for (int i = 0; i < 4; i++) {
                notes.lay(notes.right(k, i), i);
            }
            CHECK.same("which() of right order " + k, notes.which(), k);
        }
    }
}
