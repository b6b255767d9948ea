import java.util.function.Supplier;

/** The boundary cases of promises 26 and 27 and of an object's 512 calls, each under its sentence. */
public final class ToldBoundsTest {
    private static final int MIN = Integer.MIN_VALUE, MAX = Integer.MAX_VALUE;
    private static final int NONE = BlockMarker.NONE, OUTSIDE = BlockMarker.OUTSIDE;
    private static final Check CHECK = new Check("ToldBoundsTest");

    public static void main(String[] args) {
        countWhat();
        countOfNothing();
        countOfAll();
        countOfPairs();
        countOfHintsEver();
        refusedCallsAreNotCounted();
        digestOfNothing();
        digestOfEdges();
        digestOfAll();
        digestKnowsTheOrder();
        fiveHundredAndTwelveCalls();
        CHECK.end();
    }

    private static BlockMarker full() {
        BlockMarker x = Samples.mixed(12, 3, 1);
        for (int i = 1; i < 8; i++) {
            x.input(MIN, MAX, -1, i, -i, 0);
        }
        for (int l = 0; l < 16; l++) {
            x.lay(l, 0);
        }
        return x;
    }

    /** count: "OUTSIDE." */
    private static void countWhat() {
        for (int what : new int[] {MIN, -1, 7, MAX}) {
            CHECK.leaves(BlockMarker::new, "new: count(" + what + ")", x -> x.count(what), OUTSIDE);
            CHECK.leaves(ToldBoundsTest::full, "count(" + what + ")", x -> x.count(what), OUTSIDE);
        }
    }

    /** "How many": none of all. */
    private static void countOfNothing() {
        for (int what = 0; what <= 6; what++) {
            int asked = what;
            CHECK.leaves(BlockMarker::new, "new: count(" + what + ")", x -> x.count(asked), 0);
        }
    }

    /** "0 LINES, 1 of the MODEL, 2 DECOYS, 3 WRONG ones, 4 INPUTS": as many as can be. */
    private static void countOfAll() {
        int[] want = {16, 12, 1, 3, 8};
        for (int what = 0; what < want.length; what++) {
            int asked = what;
            CHECK.leaves(ToldBoundsTest::full, "count(" + what + ")", x -> x.count(asked), want[what]);
        }
        CHECK.leaves(() -> Samples.mixed(0, 0, 16), "16 DECOYS: count(2)", x -> x.count(2), 16);
        CHECK.leaves(() -> Samples.mixed(0, 0, 16), "16 DECOYS: count(1)", x -> x.count(1), 0);
        CHECK.leaves(() -> Samples.mixed(8, 8, 0), "8 pairs: count(3)", x -> x.count(3), 8);
        CHECK.leaves(() -> Samples.mixed(8, 8, 0), "8 pairs: count(1)", x -> x.count(1), 8);
    }

    /** "5 pairs of which the one NEEDS TO BE AHEAD OF the other" */
    private static void countOfPairs() {
        CHECK.leaves(() -> Samples.prints(1), "one PRINT: count(5)", x -> x.count(5), 0);
        CHECK.leaves(() -> Samples.prints(2), "two PRINTS: count(5)", x -> x.count(5), 1);
        CHECK.leaves(() -> Samples.prints(12), "12 PRINTS: count(5)", x -> x.count(5), 66);
        CHECK.leaves(() -> Samples.notes(12), "12 NOTES: count(5)", x -> x.count(5), 0);
        CHECK.leaves(() -> Samples.mixed(0, 0, 16), "16 DECOYS that PRINT: count(5)", x -> x.count(5), 0);
    }

    /** "6 HINTS done ever": by more than one ANSWER, and behind wipe(). */
    private static void countOfHintsEver() {
        BlockMarker x = Samples.prints(3);
        for (int i = 1; i <= 3; i++) {
            x.follow();
            CHECK.same("HINTS done", x.count(6), i);
        }
        x.follow();
        CHECK.same("no HINT was there", x.count(6), 3);
        x.clear();
        CHECK.same("cleared", x.count(6), 3);
        x.follow();
        CHECK.same("of the next ANSWER", x.count(6), 4);
        x.wipe();
        CHECK.same("wiped", x.count(6), 4);
        x.line(5, 0, 0);
        x.follow();
        CHECK.same("of the next LINES", x.count(6), 5);
    }

    /** "they change nothing": no count grows by a refused call. */
    private static void refusedCallsAreNotCounted() {
        BlockMarker x = full();
        x.line(5, 0, 0);
        x.decoy(5, 0, 0);
        x.wrong(11, 5, 0, 0);
        x.input(0, 0, 0, 0, 0, 0);
        x.clear();
        x.line(5, 0, 0);
        x.decoy(5, 0, 0);
        x.wrong(11, 5, 0, 0);
        x.input(0, 0, 0, 0, 0, 0);
        int[] want = {16, 12, 1, 3, 8};
        for (int what = 0; what < want.length; what++) {
            CHECK.same("count(" + what + ")", x.count(what), want[what]);
        }
    }

    /** "h is 101, then for each of these numbers": there is but HINTS done. */
    private static void digestOfNothing() {
        CHECK.leaves(BlockMarker::new, "new: digest()", x -> x.digest(), 31 * 101);
        BlockMarker x = Samples.notes(1);
        x.follow();
        x.wipe();
        CHECK.same("wiped, a HINT done: digest()", x.digest(), 31 * 101 + 1);
    }

    /** "31 times h, and it (as longs, wrapping)": ints at their ends are taken as longs. */
    private static void digestOfEdges() {
        BlockMarker x = new BlockMarker();
        x.input(MIN, MAX, -1, 0, 0, 0);
        long h = 31 * 101L + MIN;
        h = 31 * h + MAX;
        h = 31 * h - 1;
        h = 31 * 31 * 31 * 31 * h;
        CHECK.same("an INPUT of edges: digest()", x.digest(), h);
        BlockMarker y = new BlockMarker();
        y.decoy(0, 5, MIN);
        h = 31 * 101L;
        h = 31 * h + 5;
        h = 31 * h + MIN;
        h = 31 * h + 1;
        h = 31 * h - 1;
        CHECK.same("a SET to MIN: digest()", y.digest(), 31 * h);
    }

    /** digest() by the answers of other calls; the INPUTS are those of full(). */
    private static long digestDue(BlockMarker x) {
        long h = 101;
        for (int l = 0; l < 16; l++) {
            for (int what = 0; what <= 4; what++) {
                h = 31 * h + x.told(l, what);
            }
        }
        long[] first = {3, 1, 4, 1, 5, 9};
        for (long n : first) {
            h = 31 * h + n;
        }
        for (int i = 1; i < 8; i++) {
            for (long n : new long[] {MIN, MAX, -1, i, -i, 0}) {
                h = 31 * h + n;
            }
        }
        for (int place = 0; place < x.size(); place++) {
            h = 31 * h + x.at(place);
        }
        return 31 * h + x.count(6);
    }

    /** "of each LINE what told() tells for 0 to 4; of each INPUT its ints; THE ANSWER's LINES; HINTS done": all there can be. */
    private static void digestOfAll() {
        BlockMarker x = full();
        CHECK.same("all LINES, INPUTS, places: digest()", x.digest(), digestDue(x));
        x.follow();
        CHECK.same("a HINT done: digest()", x.digest(), digestDue(x));
        x.clear();
        CHECK.same("THE ANSWER is empty: digest()", x.digest(), digestDue(x));
    }

    /** "in order": two ANSWERS of the same LINES differ. */
    private static void digestKnowsTheOrder() {
        BlockMarker x = full();
        long before = x.digest();
        x.move(0, 15);
        CHECK.same("moved: digest()", x.digest(), digestDue(x));
        CHECK.isTrue("moved: digest() is another", x.digest() != before);
        x.move(15, 0);
        CHECK.same("moved back: digest()", x.digest(), before);
    }

    /** "An object is used for at most 512 calls after it has been made": the last is answered as all are. */
    private static void fiveHundredAndTwelveCalls() {
        BlockMarker hints = Samples.notes(1);
        for (int i = 0; i < 255; i++) {
            hints.follow();
            hints.clear();
        }
        CHECK.same("call 512: count(6)", hints.count(6), 255);
        Supplier<BlockMarker> nearlyDone = () -> {
            BlockMarker x = Samples.sums();
            for (int i = 0; i < 500; i++) {
                x.lay(6, 0);
            }
            return x;
        };
        BlockMarker laid = nearlyDone.get();
        CHECK.same("call 511: follow()", laid.follow(), 6);
        CHECK.same("call 512: line()", laid.line(5, 0, 0), 8);
        BlockMarker marked = nearlyDone.get();
        CHECK.same("call 511: take()", marked.take(1), OUTSIDE);
        CHECK.same("call 512: mark()", marked.mark(), 7);
        BlockMarker wiped = nearlyDone.get();
        CHECK.same("call 511: wipe()", wiped.wipe(), 8);
        CHECK.same("call 512: at(0)", wiped.at(0), NONE);
    }
}
