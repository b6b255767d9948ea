/** Promises 22 to 25: mark, kept, hint, follow. */
public final class MarksTest {
    private static final int MIN = Integer.MIN_VALUE, MAX = Integer.MAX_VALUE;
    private static final int DROP = 0, ADD = 1, MOVE = 2, SWAP = 3;
    private static final Check CHECK = new Check("MarksTest");

    public static void main(String[] args) {
        marks();
        keptPrefersTheFirst();
        keptOfWrong();
        drop();
        swap();
        add();
        move();
        none();
        followAll();
        CHECK.end();
    }

    private static void hinted(BlockMarker x, int change, int l, int place) {
        String row = " of " + Samples.answerOf(x);
        CHECK.same("hint(0)" + row, x.hint(0), change);
        CHECK.same("hint(1)" + row, x.hint(1), l);
        CHECK.same("hint(2)" + row, x.hint(2), place);
        CHECK.same("hint(3)" + row, x.hint(3), BlockMarker.OUTSIDE);
        CHECK.same("hint(-1)" + row, x.hint(-1), BlockMarker.OUTSIDE);
        CHECK.same("hint(MIN)" + row, x.hint(MIN), BlockMarker.OUTSIDE);
        CHECK.same("hint(MAX)" + row, x.hint(MAX), BlockMarker.OUTSIDE);
    }

    private static void markOf(int want, int... row) {
        BlockMarker x = Samples.sums();
        Samples.layAll(x, row);
        CHECK.same("mark() of " + Samples.answerOf(x), x.mark(), want);
    }

    private static void marks() {
        markOf(6);
        markOf(0, 0, 1, 2, 3, 4, 5);
        markOf(0, 1, 0, 2, 4, 3, 5);
        markOf(1, 0, 1, 2, 3, 4);
        markOf(1, 0, 1, 2, 3, 4, 5, 6);
        markOf(1, 0, 1, 7, 3, 4, 5);
        markOf(1, 0, 1, 2, 7, 3, 4, 5);
        markOf(1, 5, 0, 1, 2, 3, 4);
        markOf(2, 7, 0, 1, 3, 4, 5);
        markOf(2, 7, 2, 0, 1, 3, 4, 5);
        // The WRONG LINE stands where its PARTNER should: a DROP and a MOVE, or a DROP and a SWAP.
        markOf(2, 2, 0, 1, 7, 3, 4, 5);
        markOf(7, 6);
        markOf(6, 7);
    }

    private static void keptAre(BlockMarker x, String want) {
        StringBuilder got = new StringBuilder();
        for (int place = 0; place < x.size(); place++) {
            got.append(x.kept(place));
        }
        CHECK.isTrue("kept of " + Samples.answerOf(x) + " is " + want + " (it is " + got + ")", want.contentEquals(got));
        CHECK.same("kept(size)", x.kept(x.size()), BlockMarker.OUTSIDE);
        CHECK.same("kept(-1)", x.kept(-1), BlockMarker.OUTSIDE);
        CHECK.same("kept(MIN)", x.kept(MIN), BlockMarker.OUTSIDE);
        CHECK.same("kept(MAX)", x.kept(MAX), BlockMarker.OUTSIDE);
    }

    private static void keptPrefersTheFirst() {
        BlockMarker x = Samples.prints(4);
        keptAre(x, "");
        Samples.layAll(x, 3, 2, 1, 0);
        keptAre(x, "1000");
        x.clear();
        Samples.layAll(x, 1, 0, 3, 2);
        keptAre(x, "1010");
        x.clear();
        Samples.layAll(x, 3, 0, 1, 2);
        keptAre(x, "0111");
        x.clear();
        Samples.layAll(x, 2, 3, 0, 1);
        keptAre(x, "1100");
        x.clear();
        Samples.layAll(x, 2, 0, 3, 1);
        keptAre(x, "1010");
    }

    private static void keptOfWrong() {
        BlockMarker x = Samples.sums();
        Samples.layAll(x, 5, 7, 6, 0, 3);
        keptAre(x, "01001");
        x.lay(2, 5);
        // 7 is no more taken for 2, and 2 stands behind 3.
        keptAre(x, "000110");
    }

    private static void drop() {
        BlockMarker x = Samples.sums();
        Samples.layAll(x, 3, 7, 6, 2);
        hinted(x, DROP, 7, 1);
        x.take(3);
        hinted(x, DROP, 6, 2);
        CHECK.same("follow()", x.follow(), x.mark());
        CHECK.isTrue("6 went", Samples.answerOf(x).equals("3 7"));
    }

    private static void swap() {
        BlockMarker x = Samples.sums();
        x.wrong(0, 0, 0, 50);
        Samples.layAll(x, 3, 8, 7);
        hinted(x, SWAP, 8, 1);
        int before = x.mark();
        CHECK.same("follow()", x.follow(), before - 1);
        CHECK.isTrue("8 became 0 in its place", Samples.answerOf(x).equals("3 0 7"));
        hinted(x, SWAP, 7, 2);
        x.follow();
        CHECK.isTrue("7 became 2 in its place", Samples.answerOf(x).equals("3 0 2"));
    }

    private static void add() {
        BlockMarker x = Samples.sums();
        hinted(x, ADD, 0, 0);
        Samples.layAll(x, 1, 0, 3, 4);
        hinted(x, ADD, 2, 2);
        CHECK.same("follow()", x.follow(), 1);
        CHECK.isTrue("2 came behind what it needs", Samples.answerOf(x).equals("1 0 2 3 4"));
        hinted(x, ADD, 5, 5);
        x.clear();
        Samples.layAll(x, 2, 0, 3, 4);
        // Of 2 and 0 the first is KEPT; 1 needs nothing ahead of it.
        hinted(x, ADD, 1, 0);
        x.clear();
        Samples.layAll(x, 4, 3, 1, 2, 0);
        // 4, 3 are KEPT, 1, 2, 0 not: 5 goes just behind 3, not behind them all.
        hinted(x, ADD, 5, 2);
        x.clear();
        Samples.layAll(x, 3, 4, 0, 1, 5);
        // 3, 4, 5 are KEPT as well as 0, 1, 5 could be: then nothing KEPT needs to be ahead of 2.
        hinted(x, ADD, 2, 0);
    }

    private static void move() {
        BlockMarker x = Samples.sums();
        Samples.layAll(x, 5, 0, 1, 2, 3, 4);
        hinted(x, MOVE, 5, 5);
        CHECK.same("follow()", x.follow(), 0);
        CHECK.isTrue("5 is last", Samples.answerOf(x).equals("0 1 2 3 4 5"));
        x.move(2, 5);
        hinted(x, MOVE, 2, 2);
        x.follow();
        CHECK.isTrue("2 is back", Samples.answerOf(x).equals("0 1 2 3 4 5"));
        BlockMarker y = Samples.prints(3);
        Samples.layAll(y, 2, 1, 0);
        hinted(y, MOVE, 1, 0);
        CHECK.same("follow()", y.follow(), 1);
        CHECK.isTrue("1 is first", Samples.answerOf(y).equals("1 2 0"));
        hinted(y, MOVE, 0, 0);
    }

    private static void none() {
        BlockMarker x = new BlockMarker();
        hinted(x, BlockMarker.NONE, BlockMarker.NONE, BlockMarker.NONE);
        CHECK.same("mark()", x.mark(), 0);
        CHECK.refused(x, "follow()", () -> x.follow(), BlockMarker.NONE);
        BlockMarker y = Samples.sums();
        Samples.layAll(y, 0, 1, 2, 3, 4, 5);
        hinted(y, BlockMarker.NONE, BlockMarker.NONE, BlockMarker.NONE);
        CHECK.refused(y, "follow()", () -> y.follow(), BlockMarker.NONE);
        CHECK.same("count(6)", y.count(6), 0);
    }

    private static void followAll() {
        BlockMarker x = Samples.sums();
        Samples.layAll(x, 5, 7, 6, 0, 3);
        String[] rows = {"5 7 0 3", "5 2 0 3", "1 5 2 0 3", "1 5 2 4 0 3", "1 2 4 0 3 5", "0 1 2 4 3 5"};
        for (int i = 0; i < rows.length; i++) {
            CHECK.same("follow() " + i, x.follow(), 5 - i);
            CHECK.isTrue("behind follow() " + i + ": " + Samples.answerOf(x), Samples.answerOf(x).equals(rows[i]));
            CHECK.same("count(6)", x.count(6), i + 1);
        }
        CHECK.same("which()", x.which(), 1);
        CHECK.same("alike()", x.alike(), BlockMarker.NONE);
        CHECK.same("follow() at last", x.follow(), BlockMarker.NONE);
        CHECK.same("count(6) at last", x.count(6), 6);
    }
}
