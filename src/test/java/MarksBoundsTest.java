import java.util.function.Supplier;

/** The boundary cases of promises 22 to 25, each under the document's sentence that names it. */
public final class MarksBoundsTest {
    private static final int MIN = Integer.MIN_VALUE, MAX = Integer.MAX_VALUE;
    private static final int NONE = BlockMarker.NONE, OUTSIDE = BlockMarker.OUTSIDE;
    private static final int DROP = 0, ADD = 1, MOVE = 2, SWAP = 3;
    private static final Check CHECK = new Check("MarksBoundsTest");

    public static void main(String[] args) {
        markOfNothing();
        markOfEveryRightOrder();
        theGreatestMarks();
        markOfOneChange();
        swapNeedsThePartnerAway();
        keptAtWhichPlace();
        keptAll();
        keptOne();
        keptTakenForOne();
        keptFirstIfSomeHas();
        hintWhat();
        hintOfNone();
        hintsInTheirOrder();
        dropOfTheFirst();
        swapOfTheFirst();
        addOfTheLeast();
        addToWhichPlace();
        moveOfTheFirst();
        moveToWhichPlace();
        followOfNone();
        followToTheEnd();
        followWithSixteen();
        CHECK.end();
    }

    private static Supplier<BlockMarker> laid(Supplier<BlockMarker> making, int... row) {
        return () -> {
            BlockMarker x = making.get();
            Samples.layAll(x, row);
            return x;
        };
    }

    private static void hinted(Supplier<BlockMarker> making, int change, int l, int place) {
        String row = " of " + Samples.answerOf(making.get());
        CHECK.leaves(making, "hint(0)" + row, x -> x.hint(0), change);
        CHECK.leaves(making, "hint(1)" + row, x -> x.hint(1), l);
        CHECK.leaves(making, "hint(2)" + row, x -> x.hint(2), place);
    }

    private static void followed(Supplier<BlockMarker> making, int mark, String row) {
        BlockMarker x = making.get();
        String call = "follow() of " + Samples.answerOf(x);
        CHECK.same(call, x.follow(), mark);
        String got = Samples.answerOf(x);
        CHECK.isTrue("behind " + call + " is " + row + " (it is " + got + ")", got.equals(row));
    }

    private static String keptOf(BlockMarker x) {
        StringBuilder text = new StringBuilder();
        for (int place = 0; place < x.size(); place++) {
            text.append(x.kept(place));
        }
        return text.toString();
    }

    private static void kept(Supplier<BlockMarker> making, String want) {
        BlockMarker x = making.get();
        String got = keptOf(x);
        CHECK.isTrue("kept of " + Samples.answerOf(x) + " is " + want + " (it is " + got + ")", got.equals(want));
    }

    /** 12 PRINTS 0 to 11, each WRONG LINE 12 to 15 of one of the first four of them. */
    private static BlockMarker fourPairs() {
        BlockMarker x = Samples.prints(12);
        for (int p = 0; p < 4; p++) {
            x.wrong(p, 5, 0, 0);
        }
        return x;
    }

    private static BlockMarker printsAndDecoys() {
        BlockMarker x = Samples.prints(12);
        for (int l = 12; l < 16; l++) {
            x.decoy(5, 0, 0);
        }
        return x;
    }

    private static int[] downFrom(int l) {
        int[] row = new int[l + 1];
        for (int place = 0; place <= l; place++) {
            row[place] = l - place;
        }
        return row;
    }

    private static int[] upTo(int l) {
        int[] row = new int[l + 1];
        for (int place = 0; place <= l; place++) {
            row[place] = place;
        }
        return row;
    }

    /** mark: with no LINE of the MODEL the empty ANSWER is right, and each LINE is one too many. */
    private static void markOfNothing() {
        CHECK.leaves(BlockMarker::new, "no LINES: mark()", x -> x.mark(), 0);
        Supplier<BlockMarker> decoys = () -> Samples.mixed(0, 0, 16);
        CHECK.leaves(decoys, "DECOYS alone, none laid: mark()", x -> x.mark(), 0);
        CHECK.leaves(laid(decoys, 3), "one DECOY laid: mark()", x -> x.mark(), 1);
        CHECK.leaves(laid(decoys, upTo(15)), "16 DECOYS laid: mark()", x -> x.mark(), 16);
    }

    /** "make of THE ANSWER some RIGHT ORDER": none is needed, whichever it is. */
    private static void markOfEveryRightOrder() {
        BlockMarker x = Samples.sums();
        for (int k = 0; k < 4; k++) {
            x.clear();
            for (int i = 0; i < 6; i++) {
                x.lay(x.right(k, i), i);
            }
            CHECK.same("mark() of RIGHT ORDER " + k, x.mark(), 0);
        }
        CHECK.leaves(laid(() -> Samples.notes(12), downFrom(11)), "12 NOTES in any order", y -> y.mark(), 0);
        CHECK.leaves(laid(() -> Samples.prints(12), upTo(11)), "12 PRINTS in theirs", y -> y.mark(), 0);
    }

    /** "how many CHANGES at least": 12 ADDS, 11 MOVES, with four DROPS more or with four SWAPS. */
    private static void theGreatestMarks() {
        CHECK.leaves(() -> Samples.prints(12), "12 ADDS", x -> x.mark(), 12);
        CHECK.leaves(laid(() -> Samples.prints(12), downFrom(11)), "11 MOVES", x -> x.mark(), 11);
        CHECK.leaves(laid(MarksBoundsTest::printsAndDecoys, 12, 13, 14, 15), "12 ADDS, 4 DROPS", x -> x.mark(), 16);
        CHECK.leaves(laid(MarksBoundsTest::printsAndDecoys, downFrom(15)), "11 MOVES, 4 DROPS", x -> x.mark(), 15);
        CHECK.leaves(laid(MarksBoundsTest::fourPairs, downFrom(15)), "the same with WRONG ones", x -> x.mark(), 15);
        CHECK.leaves(laid(MarksBoundsTest::fourPairs, 12, 13, 14, 15), "4 SWAPS, 8 ADDS", x -> x.mark(), 12);
        CHECK.leaves(laid(MarksBoundsTest::fourPairs, 15, 14, 13, 12), "4 SWAPS, 3 MOVES, 8 ADDS", x -> x.mark(), 15);
    }

    /** "DROP .. ADD .. MOVE .. SWAP": one of each alone. */
    private static void markOfOneChange() {
        CHECK.leaves(laid(Samples::sums, 6, 0, 1, 2, 3, 4, 5), "a DROP, at the start", x -> x.mark(), 1);
        CHECK.leaves(laid(Samples::sums, 0, 1, 2, 3, 4, 5, 6), "a DROP, at the end", x -> x.mark(), 1);
        CHECK.leaves(laid(Samples::sums, 1, 2, 3, 4, 5), "an ADD, at the start", x -> x.mark(), 1);
        CHECK.leaves(laid(Samples::sums, 0, 1, 2, 3, 4), "an ADD, at the end", x -> x.mark(), 1);
        CHECK.leaves(laid(Samples::sums, 5, 0, 1, 2, 3, 4), "a MOVE, to the end", x -> x.mark(), 1);
        CHECK.leaves(laid(Samples::sums, 1, 2, 3, 4, 5, 0), "a MOVE, to the start", x -> x.mark(), 1);
        CHECK.leaves(laid(Samples::sums, 0, 1, 7, 3, 4, 5), "a SWAP", x -> x.mark(), 1);
    }

    /** "SWAP: a WRONG LINE becomes its PARTNER (that is not there)" */
    private static void swapNeedsThePartnerAway() {
        CHECK.leaves(laid(Samples::sums, 0, 1, 2, 7, 3, 4, 5), "the PARTNER is there: a DROP", x -> x.mark(), 1);
        CHECK.leaves(laid(Samples::sums, 2, 0, 1, 7, 3, 4, 5), "the PARTNER is out of place", x -> x.mark(), 2);
        hinted(laid(Samples::sums, 2, 0, 1, 7, 3, 4, 5), DROP, 7, 3);
        hinted(laid(Samples::sums, 0, 1, 7, 3, 4, 5), SWAP, 7, 2);
    }

    /** kept: "OUTSIDE." */
    private static void keptAtWhichPlace() {
        for (int many : new int[] {0, 1, 3, 16}) {
            Supplier<BlockMarker> making = laid(MarksBoundsTest::printsAndDecoys, upTo(many - 1));
            for (int place : new int[] {MIN, -1, many, MAX}) {
                CHECK.leaves(making, "kept(" + place + ") of " + many, x -> x.kept(place), OUTSIDE);
            }
            if (many > 0) {
                CHECK.leaves(making, "kept(0) of " + many, x -> x.kept(0), 1);
                CHECK.leaves(making, "kept(last) of " + many, x -> x.kept(many - 1), many > 12 ? 0 : 1);
            }
        }
    }

    /** "a choice of as many as can be": all twelve. */
    private static void keptAll() {
        kept(laid(() -> Samples.notes(12), downFrom(11)), "111111111111");
        kept(laid(() -> Samples.prints(12), upTo(11)), "111111111111");
        kept(laid(MarksBoundsTest::printsAndDecoys, upTo(15)), "1111111111110000");
    }

    /** "a choice of as many as can be": one alone, and none. */
    private static void keptOne() {
        kept(laid(() -> Samples.prints(12), downFrom(11)), "100000000000");
        kept(laid(MarksBoundsTest::printsAndDecoys, downFrom(15)), "0000100000000000");
        kept(laid(MarksBoundsTest::printsAndDecoys, 12, 13, 14, 15), "0000");
        kept(laid(MarksBoundsTest::printsAndDecoys, 12), "0");
    }

    /** "each WRONG LINE whose PARTNER is not there taken for its PARTNER, DECOYS and other WRONG ones left out" */
    private static void keptTakenForOne() {
        kept(laid(MarksBoundsTest::fourPairs, 12, 13, 14, 15), "1111");
        kept(laid(MarksBoundsTest::fourPairs, 15, 14, 13, 12), "1000");
        kept(laid(MarksBoundsTest::fourPairs, 12, 0), "01");
        kept(laid(MarksBoundsTest::fourPairs, 0, 12), "10");
        kept(laid(MarksBoundsTest::fourPairs, 12, 1, 2, 13), "1110");
        kept(laid(MarksBoundsTest::fourPairs, 4, 12), "10");
    }

    /** "of several choices the one that has the first LINE, if some has, then the second, and so on" */
    private static void keptFirstIfSomeHas() {
        kept(laid(() -> Samples.prints(2), 1, 0), "10");
        // Three can be KEPT without the first LINE alone: then it is not KEPT.
        kept(laid(() -> Samples.prints(4), 3, 0, 1, 2), "0111");
        kept(laid(() -> Samples.prints(6), 4, 0, 5, 1, 2, 3), "010111");
        kept(laid(() -> Samples.prints(6), 3, 4, 5, 0, 1, 2), "111000");
        kept(laid(() -> Samples.prints(6), 1, 0, 3, 2, 5, 4), "101010");
        kept(laid(() -> Samples.prints(6), 0, 2, 1, 4, 3, 5), "110101");
    }

    /** hint: "OUTSIDE." */
    private static void hintWhat() {
        for (int what : new int[] {MIN, -1, 3, MAX}) {
            CHECK.leaves(Samples::sums, "hint(" + what + ")", x -> x.hint(what), OUTSIDE);
            CHECK.leaves(laid(Samples::sums, 3, 7, 6), "hint(" + what + ") of some", x -> x.hint(what), OUTSIDE);
            CHECK.leaves(BlockMarker::new, "hint(" + what + "), where there is none", x -> x.hint(what), OUTSIDE);
        }
    }

    /** "There is none, if THE MARK is 0"; hint: "NONE also of 1, 2 then." */
    private static void hintOfNone() {
        hinted(BlockMarker::new, NONE, NONE, NONE);
        hinted(() -> Samples.mixed(0, 0, 3), NONE, NONE, NONE);
        hinted(laid(Samples::sums, 0, 1, 2, 3, 4, 5), NONE, NONE, NONE);
        hinted(laid(Samples::sums, 1, 0, 2, 4, 3, 5), NONE, NONE, NONE);
        hinted(laid(() -> Samples.notes(12), downFrom(11)), NONE, NONE, NONE);
    }

    /** "the first of these that there is": DROP, SWAP, ADD, MOVE. */
    private static void hintsInTheirOrder() {
        hinted(laid(Samples::sums, 5, 7, 0, 1, 6), DROP, 6, 4);
        hinted(laid(Samples::sums, 5, 0, 1, 7), SWAP, 7, 3);
        hinted(laid(Samples::sums, 5, 0, 1, 3, 4), ADD, 2, 3);
        hinted(laid(Samples::sums, 5, 0, 1, 2, 3, 4), MOVE, 5, 5);
    }

    /** "DROP of the first LINE (by its place) that is a DECOY, or WRONG with its PARTNER there" */
    private static void dropOfTheFirst() {
        hinted(laid(MarksBoundsTest::printsAndDecoys, 15, 13, 12, 14), DROP, 15, 0);
        hinted(laid(MarksBoundsTest::printsAndDecoys, 0, 1, 2, 14), DROP, 14, 3);
        hinted(laid(Samples::sums, 7, 6, 2), DROP, 7, 0);
        hinted(laid(Samples::sums, 7, 6), DROP, 6, 1);
        hinted(laid(Samples::sums, 2, 7), DROP, 7, 1);
        followed(laid(Samples::sums, 2, 7), 5, "2");
        followed(laid(Samples::sums, 6), 6, "");
    }

    /** "SWAP of the first WRONG LINE" */
    private static void swapOfTheFirst() {
        hinted(laid(MarksBoundsTest::fourPairs, 15, 12), SWAP, 15, 0);
        hinted(laid(MarksBoundsTest::fourPairs, 4, 5, 12, 13), SWAP, 12, 2);
        followed(laid(MarksBoundsTest::fourPairs, 4, 5, 13), 10, "4 5 1");
        followed(laid(MarksBoundsTest::fourPairs, 13), 11, "1");
    }

    /** "ADD of the least LINE of the MODEL that is not there" */
    private static void addOfTheLeast() {
        hinted(() -> Samples.prints(12), ADD, 0, 0);
        hinted(laid(() -> Samples.prints(12), 0, 1, 2, 3, 4, 5, 6, 7, 8, 9, 10), ADD, 11, 11);
        hinted(laid(() -> Samples.notes(3), 0, 2), ADD, 1, 0);
        Supplier<BlockMarker> behindDecoys = () -> {
            BlockMarker x = new BlockMarker();
            x.decoy(5, 0, 0);
            x.line(5, 0, 0);
            return x;
        };
        hinted(behindDecoys, ADD, 1, 0);
    }

    /** "to the place just behind the last KEPT LINE that NEEDS TO BE AHEAD OF it, place 0 if none" */
    private static void addToWhichPlace() {
        hinted(laid(() -> Samples.prints(3), 1, 2), ADD, 0, 0);
        hinted(laid(() -> Samples.prints(3), 0, 2), ADD, 1, 1);
        hinted(laid(() -> Samples.prints(3), 0, 1), ADD, 2, 2);
        // 0 would need to be ahead of 2, but is not KEPT.
        hinted(laid(() -> Samples.prints(3), 1, 0), ADD, 2, 1);
        followed(laid(() -> Samples.prints(3), 1, 0), 1, "1 2 0");
        // All are KEPT, and none needs to be ahead of a NOTE: place 0.
        Supplier<BlockMarker> note = () -> {
            BlockMarker x = Samples.prints(3);
            x.line(5, 0, 0);
            return x;
        };
        hinted(laid(note, 0, 1, 2), ADD, 3, 0);
        followed(laid(note, 0, 1, 2), 0, "3 0 1 2");
    }

    /** "MOVE of the first LINE that is not KEPT" */
    private static void moveOfTheFirst() {
        hinted(laid(() -> Samples.prints(12), downFrom(11)), MOVE, 10, 0);
        hinted(laid(() -> Samples.prints(4), 3, 0, 1, 2), MOVE, 3, 3);
        hinted(laid(() -> Samples.prints(4), 0, 1, 3, 2), MOVE, 2, 2);
    }

    /** "(places of MOVE: when it was taken out)" */
    private static void moveToWhichPlace() {
        followed(laid(() -> Samples.prints(4), 3, 0, 1, 2), 0, "0 1 2 3");
        followed(laid(() -> Samples.prints(4), 1, 2, 3, 0), 0, "0 1 2 3");
        followed(laid(() -> Samples.prints(4), 0, 1, 3, 2), 0, "0 1 2 3");
        followed(laid(() -> Samples.prints(4), 0, 3, 1, 2), 0, "0 1 2 3");
        Supplier<BlockMarker> first = laid(() -> Samples.prints(12), 11, 0, 1, 2, 3, 4, 5, 6, 7, 8, 9, 10);
        Supplier<BlockMarker> last = laid(() -> Samples.prints(12), 1, 2, 3, 4, 5, 6, 7, 8, 9, 10, 11, 0);
        hinted(first, MOVE, 11, 11);
        hinted(last, MOVE, 0, 0);
        followed(first, 0, "0 1 2 3 4 5 6 7 8 9 10 11");
        followed(last, 0, "0 1 2 3 4 5 6 7 8 9 10 11");
    }

    /** follow: "NONE: there is none.": nothing is done then, nor counted. */
    private static void followOfNone() {
        CHECK.leaves(BlockMarker::new, "no LINES: follow()", x -> x.follow(), NONE);
        CHECK.leaves(laid(Samples::sums, 0, 1, 2, 3, 4, 5), "a RIGHT ORDER: follow()", x -> x.follow(), NONE);
        BlockMarker x = laid(Samples::sums, 0, 1, 2, 3, 4).get();
        CHECK.same("the last HINT", x.follow(), 0);
        CHECK.same("HINTS done", x.count(6), 1);
        CHECK.same("none any more", x.follow(), NONE);
        CHECK.same("none any more, again", x.follow(), NONE);
        CHECK.same("HINTS done, no more", x.count(6), 1);
    }

    private static void followAll(Supplier<BlockMarker> making, long which) {
        BlockMarker x = making.get();
        int mark = x.mark();
        for (int left = mark - 1; left >= 0; left--) {
            CHECK.same("follow(), " + left + " left", x.follow(), left);
            CHECK.same("mark(), " + left + " left", x.mark(), left);
        }
        CHECK.same("follow() at the end", x.follow(), NONE);
        CHECK.same("HINTS done", x.count(6), mark);
        CHECK.same("which() at the end", x.which(), which);
    }

    /** follow: "THE HINT is done: THE MARK then": from the greatest marks down to 0. */
    private static void followToTheEnd() {
        followAll(() -> Samples.prints(12), 0);
        followAll(() -> Samples.notes(12), 479001599);
        followAll(laid(() -> Samples.prints(12), downFrom(11)), 0);
        followAll(laid(() -> Samples.mixed(0, 0, 16), upTo(15)), 0);
        followAll(laid(MarksBoundsTest::fourPairs, 12, 13, 14, 15), 0);
        followAll(laid(MarksBoundsTest::fourPairs, 15, 14, 13, 12), 0);
    }

    /** follow: with all 16 LINES laid, no DROP, SWAP or MOVE finds THE ANSWER too long. */
    private static void followWithSixteen() {
        followAll(laid(MarksBoundsTest::printsAndDecoys, downFrom(15)), 0);
        followAll(laid(MarksBoundsTest::fourPairs, downFrom(15)), 0);
        followAll(laid(MarksBoundsTest::printsAndDecoys, 12, 13, 14, 15), 0);
        followed(laid(MarksBoundsTest::printsAndDecoys, upTo(15)), 3, "0 1 2 3 4 5 6 7 8 9 10 11 13 14 15");
    }
}
