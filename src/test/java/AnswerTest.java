/** Promises 12 to 17: lay, take, move, clear, at, size. */
public final class AnswerTest {
    private static final int MIN = Integer.MIN_VALUE, MAX = Integer.MAX_VALUE;
    private static final Check CHECK = new Check("AnswerTest");

    public static void main(String[] args) {
        lay();
        take();
        move();
        clear();
        sixteen();
        CHECK.end();
    }

    private static void row(BlockMarker x, String want) {
        String got = Samples.answerOf(x);
        CHECK.isTrue("THE ANSWER is " + want + " (it is " + got + ")", got.equals(want));
    }

    private static void lay() {
        BlockMarker x = Samples.sums();
        CHECK.same("lay(3, 0)", x.lay(3, 0), 1);
        CHECK.same("lay(7, 0)", x.lay(7, 0), 2);
        CHECK.same("lay(6, 1)", x.lay(6, 1), 3);
        CHECK.same("lay(2, 3)", x.lay(2, 3), 4);
        row(x, "7 6 3 2");
        CHECK.refused(x, "lay(8, 0)", () -> x.lay(8, 0), BlockMarker.UNKNOWN);
        CHECK.refused(x, "lay(-1, 9): UNKNOWN first", () -> x.lay(-1, 9), BlockMarker.UNKNOWN);
        CHECK.refused(x, "lay(MAX, 0)", () -> x.lay(MAX, 0), BlockMarker.UNKNOWN);
        CHECK.refused(x, "lay(0, 5)", () -> x.lay(0, 5), BlockMarker.OUTSIDE);
        CHECK.refused(x, "lay(0, -1)", () -> x.lay(0, -1), BlockMarker.OUTSIDE);
        CHECK.refused(x, "lay(0, MIN)", () -> x.lay(0, MIN), BlockMarker.OUTSIDE);
        CHECK.refused(x, "lay(0, MAX)", () -> x.lay(0, MAX), BlockMarker.OUTSIDE);
        CHECK.refused(x, "lay(3, 5): OUTSIDE ahead of STATE", () -> x.lay(3, 5), BlockMarker.OUTSIDE);
        CHECK.refused(x, "lay(3, 0)", () -> x.lay(3, 0), BlockMarker.STATE);
    }

    private static void take() {
        BlockMarker x = Samples.sums();
        CHECK.refused(x, "take(0) of nothing", () -> x.take(0), BlockMarker.OUTSIDE);
        Samples.layAll(x, 4, 5, 6, 7);
        CHECK.same("take(1)", x.take(1), 5);
        row(x, "4 6 7");
        CHECK.same("take(2)", x.take(2), 7);
        CHECK.same("take(0)", x.take(0), 4);
        row(x, "6");
        CHECK.refused(x, "take(1)", () -> x.take(1), BlockMarker.OUTSIDE);
        CHECK.refused(x, "take(-1)", () -> x.take(-1), BlockMarker.OUTSIDE);
        CHECK.refused(x, "take(MIN)", () -> x.take(MIN), BlockMarker.OUTSIDE);
        CHECK.refused(x, "take(MAX)", () -> x.take(MAX), BlockMarker.OUTSIDE);
        CHECK.same("what was taken may be laid again", x.lay(4, 0), 2);
    }

    private static void move() {
        BlockMarker x = Samples.sums();
        CHECK.refused(x, "move(0, 0) of nothing", () -> x.move(0, 0), BlockMarker.OUTSIDE);
        Samples.layAll(x, 4, 5, 6, 7);
        CHECK.same("move(0, 3)", x.move(0, 3), 4);
        row(x, "5 6 7 4");
        CHECK.same("move(3, 1)", x.move(3, 1), 4);
        row(x, "5 4 6 7");
        CHECK.same("move(1, 2)", x.move(1, 2), 4);
        row(x, "5 6 4 7");
        CHECK.same("move(2, 2)", x.move(2, 2), 4);
        row(x, "5 6 4 7");
        CHECK.refused(x, "move(0, 4)", () -> x.move(0, 4), BlockMarker.OUTSIDE);
        CHECK.refused(x, "move(4, 0)", () -> x.move(4, 0), BlockMarker.OUTSIDE);
        CHECK.refused(x, "move(0, -1)", () -> x.move(0, -1), BlockMarker.OUTSIDE);
        CHECK.refused(x, "move(-1, 0)", () -> x.move(-1, 0), BlockMarker.OUTSIDE);
        CHECK.refused(x, "move(MIN, MAX)", () -> x.move(MIN, MAX), BlockMarker.OUTSIDE);
    }

    private static void clear() {
        BlockMarker x = Samples.sums();
        Samples.layAll(x, 4, 5, 6);
        CHECK.same("size()", x.size(), 3);
        CHECK.same("at(2)", x.at(2), 6);
        CHECK.same("at(3)", x.at(3), BlockMarker.NONE);
        CHECK.same("at(-1)", x.at(-1), BlockMarker.NONE);
        CHECK.same("at(MIN)", x.at(MIN), BlockMarker.NONE);
        CHECK.same("at(MAX)", x.at(MAX), BlockMarker.NONE);
        CHECK.same("clear()", x.clear(), 3);
        CHECK.same("size() behind clear()", x.size(), 0);
        CHECK.same("at(0) behind clear()", x.at(0), BlockMarker.NONE);
        CHECK.same("the LINES stay", x.count(0), 8);
        CHECK.same("the INPUTS stay", x.count(4), 2);
    }

    private static void sixteen() {
        BlockMarker x = Samples.notes(12);
        for (int l = 12; l < 16; l++) {
            x.decoy(5, 0, 0);
        }
        for (int l = 0; l < 16; l++) {
            CHECK.same("lay(" + l + ", 0)", x.lay(l, 0), l + 1);
        }
        row(x, "15 14 13 12 11 10 9 8 7 6 5 4 3 2 1 0");
        CHECK.same("lay(0, 16): all are there", x.lay(0, 16), BlockMarker.STATE);
        CHECK.same("lay(0, 17)", x.lay(0, 17), BlockMarker.OUTSIDE);
        CHECK.same("move(15, 0)", x.move(15, 0), 0);
        CHECK.same("move(0, 15)", x.move(0, 15), 0);
        row(x, "15 14 13 12 11 10 9 8 7 6 5 4 3 2 1 0");
    }
}
