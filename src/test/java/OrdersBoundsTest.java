import java.util.function.Supplier;

/** The boundary cases of promises 8 to 11, each under the document's sentence that names it. */
public final class OrdersBoundsTest {
    private static final int MIN = Integer.MIN_VALUE, MAX = Integer.MAX_VALUE;
    private static final int NONE = BlockMarker.NONE, UNKNOWN = BlockMarker.UNKNOWN;
    private static final long ALL_OF_TWELVE = 479001600;
    private static final Check CHECK = new Check("OrdersBoundsTest");

    public static void main(String[] args) {
        needsOfUnknownLines();
        needsOfItself();
        needsByNumbers();
        needsOfOthersThanTheModel();
        othersMakeNoChain();
        theLongestChain();
        ordersOfNothing();
        ordersOfTwelve();
        ordersAsLinesCome();
        rightOfWhichOrder();
        rightOfWhichPlace();
        rightOfNothing();
        theFirstAndTheLastOrder();
        whichOfTheEmptyAnswer();
        whichAtTheEnds();
        whichOfNoRightOrder();
        CHECK.end();
    }

    /** needs: "UNKNOWN." */
    private static void needsOfUnknownLines() {
        for (int many : new int[] {0, 1, 16}) {
            Supplier<BlockMarker> making = () -> Samples.mixed(Math.min(many, 12), 0, Math.max(0, many - 12));
            for (int l : new int[] {MIN, -1, many, MAX}) {
                CHECK.leaves(making, "needs(" + l + ", 0) of " + many, x -> x.needs(l, 0), UNKNOWN);
                CHECK.leaves(making, "needs(0, " + l + ") of " + many, x -> x.needs(0, l), UNKNOWN);
                CHECK.leaves(making, "needs(" + l + ", " + l + ") of " + many, x -> x.needs(l, l), UNKNOWN);
            }
        }
        // 15 is a DECOY: a number that names nothing is told all the same.
        CHECK.same("needs(15, 16)", Samples.mixed(12, 0, 4).needs(15, 16), UNKNOWN);
        CHECK.same("needs(16, 15)", Samples.mixed(12, 0, 4).needs(16, 15), UNKNOWN);
    }

    /** "a's number is less": not the same. */
    private static void needsOfItself() {
        BlockMarker x = Samples.mixed(12, 2, 2);
        for (int l = 0; l < 16; l++) {
            CHECK.same("needs(" + l + ", " + l + ")", x.needs(l, l), 0);
        }
    }

    /** "a's number is less" */
    private static void needsByNumbers() {
        BlockMarker x = Samples.prints(12);
        for (int a = 0; a < 12; a++) {
            for (int b = 0; b < 12; b++) {
                CHECK.same("PRINTS: needs(" + a + ", " + b + ")", x.needs(a, b), a < b ? 1 : 0);
            }
        }
        BlockMarker notes = Samples.notes(12);
        CHECK.same("NOTES: needs(0, 11)", notes.needs(0, 11), 0);
        CHECK.same("NOTES: needs(11, 0)", notes.needs(11, 0), 0);
    }

    /** "0 also, if one is not of the MODEL" */
    private static void needsOfOthersThanTheModel() {
        Supplier<BlockMarker> making = () -> {
            BlockMarker x = new BlockMarker();
            x.decoy(4, 0, 0);
            x.line(4, 0, 0);
            x.wrong(1, 4, 0, 0);
            x.line(4, 0, 0);
            x.decoy(4, 0, 0);
            x.wrong(3, 4, 0, 0);
            return x;
        };
        for (int a = 0; a < 6; a++) {
            for (int b = 0; b < 6; b++) {
                int from = a;
                int to = b;
                int want = a == 1 && b == 3 ? 1 : 0;
                CHECK.leaves(making, "needs(" + a + ", " + b + ")", x -> x.needs(from, to), want);
            }
        }
    }

    /** "or there is c, a NEEDS TO BE AHEAD OF c, c OF b": LINES of the MODEL, all three. */
    private static void othersMakeNoChain() {
        BlockMarker x = new BlockMarker();
        x.line(0, 0, 1);
        x.decoy(1, 1, 0);
        x.wrong(0, 1, 1, 0);
        x.line(4, 1, 0);
        CHECK.same("by a DECOY or a WRONG LINE there is no chain", x.needs(0, 3), 0);
        CHECK.same("count(5)", x.count(5), 0);
        CHECK.same("orders()", x.orders(), 2);
    }

    /** "or there is c": a chain through all twelve, no two of its ends having a VARIABLE in common. */
    private static void theLongestChain() {
        BlockMarker x = new BlockMarker();
        x.line(0, 0, 7);
        for (int v = 1; v < 6; v++) {
            x.line(1, v, v - 1);
        }
        for (int l = 6; l < 12; l++) {
            x.line(4, 5, 0);
        }
        CHECK.same("needs(0, 11)", x.needs(0, 11), 1);
        CHECK.same("needs(11, 0)", x.needs(11, 0), 0);
        CHECK.same("each pair of twelve", x.count(5), 66);
        CHECK.same("orders()", x.orders(), 1);
    }

    /** "How many RIGHT ORDERS there are": with no LINE of the MODEL there is the empty one. */
    private static void ordersOfNothing() {
        CHECK.leaves(BlockMarker::new, "no LINES: orders()", x -> x.orders(), 1);
        CHECK.leaves(() -> Samples.mixed(0, 0, 16), "DECOYS alone: orders()", x -> x.orders(), 1);
    }

    /** "How many RIGHT ORDERS there are": the most and the least of 12 LINES. */
    private static void ordersOfTwelve() {
        CHECK.leaves(() -> Samples.notes(12), "12 NOTES: orders()", x -> x.orders(), ALL_OF_TWELVE);
        CHECK.leaves(() -> Samples.prints(12), "12 PRINTS: orders()", x -> x.orders(), 1);
    }

    /** orders(), asked between line() and line(): none is of the LINES as they were. */
    private static void ordersAsLinesCome() {
        BlockMarker x = new BlockMarker();
        long factorial = 1;
        for (int n = 1; n <= 12; n++) {
            CHECK.same("ahead of LINE " + n, x.orders(), factorial);
            x.line(5, 0, 0);
            factorial *= n;
        }
        CHECK.same("12 LINES", x.orders(), factorial);
        CHECK.same("a 13th is refused", x.line(4, 0, 0), BlockMarker.FULL);
        CHECK.same("and changes nothing", x.orders(), factorial);
        x.wipe();
        CHECK.same("wiped", x.orders(), 1);
    }

    /** right: "RIGHT ORDER k (from 0 ..); NONE: there is none." */
    private static void rightOfWhichOrder() {
        long[] none = {Long.MIN_VALUE, MIN, -1, ALL_OF_TWELVE, MAX, 1L << 31, 1L << 32, (1L << 32) + 5, -(1L << 32), Long.MAX_VALUE};
        for (long k : none) {
            CHECK.leaves(() -> Samples.notes(12), "right(" + k + ", 0)", x -> x.right(k, 0), NONE);
        }
        CHECK.leaves(() -> Samples.notes(12), "right(0, 0)", x -> x.right(0, 0), 0);
        CHECK.leaves(() -> Samples.notes(12), "right(last, 0)", x -> x.right(ALL_OF_TWELVE - 1, 0), 11);
        CHECK.leaves(() -> Samples.prints(12), "one order: right(0, 11)", x -> x.right(0, 11), 11);
        CHECK.leaves(() -> Samples.prints(12), "one order: right(1, 11)", x -> x.right(1, 11), NONE);
        CHECK.leaves(() -> Samples.prints(12), "one order: right(-1, 11)", x -> x.right(-1, 11), NONE);
    }

    /** right: "The i-th LINE .. (from 0 ..); NONE: there is none." */
    private static void rightOfWhichPlace() {
        for (int n : new int[] {1, 6, 12}) {
            for (int i : new int[] {MIN, -1, n, n + 1, MAX}) {
                CHECK.leaves(() -> Samples.notes(n), n + " NOTES: right(0, " + i + ")", x -> x.right(0, i), NONE);
            }
            CHECK.leaves(() -> Samples.notes(n), n + " NOTES: right(0, last)", x -> x.right(0, n - 1), n - 1);
        }
        // DECOYS and WRONG ones have no place in it.
        CHECK.leaves(() -> Samples.mixed(6, 1, 1), "6 of the MODEL among 8: right(0, 6)", x -> x.right(0, 6), NONE);
        CHECK.leaves(() -> Samples.notes(2), "both are not there", x -> x.right(2, 2), NONE);
    }

    /** right: "NONE: there is none": an empty order has no LINE. */
    private static void rightOfNothing() {
        CHECK.leaves(BlockMarker::new, "no LINES: right(0, 0)", x -> x.right(0, 0), NONE);
        CHECK.leaves(BlockMarker::new, "no LINES: right(0, -1)", x -> x.right(0, -1), NONE);
        CHECK.leaves(() -> Samples.mixed(0, 0, 3), "DECOYS alone: right(0, 0)", x -> x.right(0, 0), NONE);
    }

    /** right: "by the numbers of their LINES, place by place, the least first" */
    private static void theFirstAndTheLastOrder() {
        BlockMarker x = new BlockMarker();
        for (int l = 0; l < 4; l++) {
            x.decoy(5, 0, 0);
        }
        for (int l = 4; l < 16; l++) {
            x.line(5, 0, 0);
        }
        for (int i = 0; i < 12; i++) {
            CHECK.same("the first order at " + i, x.right(0, i), 4 + i);
            CHECK.same("the last order at " + i, x.right(ALL_OF_TWELVE - 1, i), 15 - i);
        }
        CHECK.same("the second order at 10", x.right(1, 10), 15);
        CHECK.same("the second order at 11", x.right(1, 11), 14);
    }

    /** which: of the empty ANSWER */
    private static void whichOfTheEmptyAnswer() {
        CHECK.leaves(BlockMarker::new, "no LINES: which()", x -> x.which(), 0);
        CHECK.leaves(() -> Samples.mixed(0, 0, 2), "DECOYS alone, none laid: which()", x -> x.which(), 0);
        CHECK.leaves(() -> Samples.notes(1), "one of the MODEL, none laid: which()", x -> x.which(), NONE);
    }

    private static Supplier<BlockMarker> laid(Supplier<BlockMarker> making, int... row) {
        return () -> {
            BlockMarker x = making.get();
            Samples.layAll(x, row);
            return x;
        };
    }

    /** "Which RIGHT ORDER THE ANSWER is": the first, the last. */
    private static void whichAtTheEnds() {
        Supplier<BlockMarker> first = laid(() -> Samples.notes(12), 0, 1, 2, 3, 4, 5, 6, 7, 8, 9, 10, 11);
        Supplier<BlockMarker> last = laid(() -> Samples.notes(12), 11, 10, 9, 8, 7, 6, 5, 4, 3, 2, 1, 0);
        CHECK.leaves(first, "which() of the first", x -> x.which(), 0);
        CHECK.leaves(last, "which() of the last", x -> x.which(), ALL_OF_TWELVE - 1);
        CHECK.leaves(laid(() -> Samples.notes(1), 0), "which() of one LINE", x -> x.which(), 0);
    }

    /** which: "NONE." */
    private static void whichOfNoRightOrder() {
        Supplier<BlockMarker> making = Samples::sums;
        CHECK.leaves(laid(making, 0, 1, 2, 3, 4), "one too few", x -> x.which(), NONE);
        CHECK.leaves(laid(making, 0, 1, 2, 3, 4, 5, 6), "one too many", x -> x.which(), NONE);
        CHECK.leaves(laid(making, 0, 1, 2, 3, 4, 6), "a DECOY in place of one", x -> x.which(), NONE);
        CHECK.leaves(laid(making, 0, 1, 7, 3, 4, 5), "a WRONG LINE in place of its PARTNER", x -> x.which(), NONE);
        CHECK.leaves(laid(making, 0, 2, 1, 3, 4, 5), "out of order", x -> x.which(), NONE);
        CHECK.leaves(laid(making, 0, 1, 2, 3, 5, 4), "the last two out of order", x -> x.which(), NONE);
        CHECK.leaves(laid(making, 6), "a DECOY alone", x -> x.which(), NONE);
    }
}
