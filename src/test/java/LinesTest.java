/** Promises 1 to 7: a new object, line, decoy, wrong, input, wipe, told. */
public final class LinesTest {
    private static final int MIN = Integer.MIN_VALUE, MAX = Integer.MAX_VALUE;
    private static final Check CHECK = new Check("LinesTest");

    public static void main(String[] args) {
        newObject();
        numbersAreShared();
        kindsAndNumbers();
        stateAheadOfFull();
        fullOfLines();
        wrongLines();
        inputs();
        wipe();
        told();
        CHECK.end();
    }

    private static void newObject() {
        BlockMarker x = new BlockMarker();
        for (int what = 0; what <= 6; what++) {
            CHECK.same("new: count(" + what + ")", x.count(what), 0);
        }
        CHECK.same("new: size()", x.size(), 0);
        CHECK.same("new: at(0)", x.at(0), BlockMarker.NONE);
        CHECK.same("new: told(0, 0)", x.told(0, 0), BlockMarker.UNKNOWN);
        CHECK.same("new: run(0, true)", x.run(0, true), BlockMarker.UNKNOWN);
        CHECK.same("new: digest()", x.digest(), 31 * 101);
        CHECK.same("new: orders()", x.orders(), 1);
        CHECK.same("new: which()", x.which(), 0);
        CHECK.same("new: wipe()", x.wipe(), 0);
        CHECK.same("new: clear()", x.clear(), 0);
    }

    private static void numbersAreShared() {
        BlockMarker x = new BlockMarker();
        CHECK.same("line", x.line(0, 0, 1), 0);
        CHECK.same("decoy", x.decoy(0, 0, 1), 1);
        CHECK.same("wrong", x.wrong(0, 0, 0, 1), 2);
        CHECK.same("line again", x.line(0, 0, 1), 3);
    }

    /** Each KIND with v and w at both edges and just outside, as line, decoy and wrong take them. */
    private static void kindsAndNumbers() {
        int[] numbers = {MIN, -1, 0, 5, 6, MAX};
        for (int kind = -1; kind <= 7; kind++) {
            for (int v : numbers) {
                for (int w : numbers) {
                    boolean vFits = kind == 5 || v >= 0 && v <= 5;
                    boolean wFits = kind == 0 || kind == 4 || kind == 5 || w >= 0 && w <= 5;
                    boolean fits = kind >= 0 && kind <= 6 && vFits && wFits;
                    BlockMarker x = new BlockMarker();
                    x.line(5, 0, 0);
                    String with = "(" + kind + ", " + v + ", " + w + ")";
                    CHECK.same("line" + with, x.line(kind, v, w), fits ? 1 : BlockMarker.OUTSIDE);
                    CHECK.same("decoy" + with, x.decoy(kind, v, w), fits ? 2 : BlockMarker.OUTSIDE);
                    CHECK.same("wrong 0 " + with, x.wrong(0, kind, v, w), fits ? 3 : BlockMarker.OUTSIDE);
                    CHECK.same("count(0)", x.count(0), fits ? 4 : 1);
                    for (int l = 1; fits && l <= 3; l++) {
                        CHECK.same("told KIND", x.told(l, 0), kind);
                        CHECK.same("told v", x.told(l, 1), v);
                        CHECK.same("told w", x.told(l, 2), w);
                        CHECK.same("told ROLE", x.told(l, 3), l - 1);
                    }
                }
            }
        }
        BlockMarker x = new BlockMarker();
        CHECK.same("line(MIN, 0, 0)", x.line(MIN, 0, 0), BlockMarker.OUTSIDE);
        CHECK.same("line(MAX, 0, 0)", x.line(MAX, 0, 0), BlockMarker.OUTSIDE);
    }

    private static void stateAheadOfFull() {
        BlockMarker x = Samples.notes(12);
        CHECK.refused(x, "a 13th of the MODEL", () -> x.line(5, 0, 0), BlockMarker.FULL);
        CHECK.refused(x, "OUTSIDE ahead of FULL", () -> x.line(4, 6, 0), BlockMarker.OUTSIDE);
        x.lay(0, 0);
        CHECK.refused(x, "STATE ahead of FULL", () -> x.line(5, 0, 0), BlockMarker.STATE);
        CHECK.refused(x, "OUTSIDE ahead of STATE", () -> x.line(7, 0, 0), BlockMarker.OUTSIDE);
        CHECK.refused(x, "decoy: STATE", () -> x.decoy(5, 0, 0), BlockMarker.STATE);
        CHECK.refused(x, "decoy: OUTSIDE ahead of STATE", () -> x.decoy(-1, 0, 0), BlockMarker.OUTSIDE);
        CHECK.refused(x, "wrong: STATE", () -> x.wrong(0, 5, 0, 0), BlockMarker.STATE);
        CHECK.refused(x, "wrong: OUTSIDE ahead of STATE", () -> x.wrong(0, 1, 0, 6), BlockMarker.OUTSIDE);
        CHECK.refused(x, "wrong: UNKNOWN ahead of all", () -> x.wrong(12, 1, 0, 6), BlockMarker.UNKNOWN);
        x.take(0);
        CHECK.same("decoy, when THE ANSWER is empty again", x.decoy(5, 0, 0), 12);
    }

    private static void fullOfLines() {
        BlockMarker x = new BlockMarker();
        x.line(5, 0, 0);
        x.line(5, 0, 0);
        x.wrong(1, 5, 0, 0);
        for (int l = 3; l < 16; l++) {
            CHECK.same("decoy " + l, x.decoy(5, 0, 0), l);
        }
        CHECK.refused(x, "line: 16 LINES", () -> x.line(5, 0, 0), BlockMarker.FULL);
        CHECK.refused(x, "decoy: 16 LINES", () -> x.decoy(5, 0, 0), BlockMarker.FULL);
        CHECK.refused(x, "wrong: 16 LINES", () -> x.wrong(0, 5, 0, 0), BlockMarker.FULL);
        CHECK.refused(x, "wrong: has one, ahead of FULL", () -> x.wrong(1, 5, 0, 0), BlockMarker.STATE);
        CHECK.refused(x, "wrong: a DECOY, ahead of FULL", () -> x.wrong(15, 5, 0, 0), BlockMarker.STATE);
        x.lay(0, 0);
        CHECK.refused(x, "line: STATE ahead of FULL", () -> x.line(5, 0, 0), BlockMarker.STATE);
        CHECK.refused(x, "decoy: STATE ahead of FULL", () -> x.decoy(5, 0, 0), BlockMarker.STATE);
        CHECK.refused(x, "wrong: STATE ahead of FULL", () -> x.wrong(0, 5, 0, 0), BlockMarker.STATE);
    }

    private static void wrongLines() {
        BlockMarker x = new BlockMarker();
        x.line(5, 0, 0);
        x.decoy(5, 0, 0);
        CHECK.refused(x, "wrong(-1)", () -> x.wrong(-1, 5, 0, 0), BlockMarker.UNKNOWN);
        CHECK.refused(x, "wrong(2): no LINE", () -> x.wrong(2, 9, 0, 0), BlockMarker.UNKNOWN);
        CHECK.refused(x, "wrong(MIN)", () -> x.wrong(MIN, 5, 0, 0), BlockMarker.UNKNOWN);
        CHECK.refused(x, "wrong(MAX)", () -> x.wrong(MAX, 5, 0, 0), BlockMarker.UNKNOWN);
        CHECK.refused(x, "wrong of a DECOY", () -> x.wrong(1, 5, 0, 0), BlockMarker.STATE);
        CHECK.refused(x, "wrong: OUTSIDE ahead of a bad PARTNER", () -> x.wrong(1, 9, 0, 0), BlockMarker.OUTSIDE);
        CHECK.same("wrong(0)", x.wrong(0, 4, 3, 8), 2);
        CHECK.refused(x, "a second wrong(0)", () -> x.wrong(0, 5, 0, 0), BlockMarker.STATE);
        CHECK.refused(x, "wrong of a WRONG one", () -> x.wrong(2, 5, 0, 0), BlockMarker.STATE);
    }

    private static void inputs() {
        BlockMarker x = Samples.notes(1);
        for (int i = 0; i < 8; i++) {
            CHECK.same("input " + i, x.input(i, MIN, MAX, -1, 0, 1), i);
        }
        CHECK.refused(x, "a ninth input", () -> x.input(0, 0, 0, 0, 0, 0), BlockMarker.FULL);
        x.lay(0, 0);
        CHECK.refused(x, "input: STATE ahead of FULL", () -> x.input(0, 0, 0, 0, 0, 0), BlockMarker.STATE);
        CHECK.same("count(4)", x.count(4), 8);
        CHECK.same("run(7, true)", x.run(7, true), 0);
        CHECK.same("value(0)", x.value(0), 7);
        CHECK.same("value(1)", x.value(1), MIN);
        CHECK.same("value(2)", x.value(2), MAX);
        CHECK.same("value(3)", x.value(3), -1);
        CHECK.same("value(5)", x.value(5), 1);
    }

    private static void wipe() {
        BlockMarker x = Samples.sums();
        Samples.layAll(x, 0, 6);
        x.follow();
        x.run(1, true);
        CHECK.same("wipe()", x.wipe(), 8);
        CHECK.same("size()", x.size(), 0);
        for (int what = 0; what <= 5; what++) {
            CHECK.same("wiped: count(" + what + ")", x.count(what), 0);
        }
        CHECK.same("wiped: HINTS done stay", x.count(6), 1);
        CHECK.same("wiped: printed(0)", x.printed(0), 0);
        for (int v = 0; v < 6; v++) {
            CHECK.same("wiped: value(" + v + ")", x.value(v), 0);
        }
        CHECK.same("wiped: orders()", x.orders(), 1);
        CHECK.same("wiped: told(0, 0)", x.told(0, 0), BlockMarker.UNKNOWN);
        CHECK.same("wiped: run(0, true)", x.run(0, true), BlockMarker.UNKNOWN);
        CHECK.same("wiped: digest()", x.digest(), 31 * 101 + 1);
        CHECK.same("wiped: a DECOY first", x.decoy(5, 0, 0), 0);
        CHECK.same("wiped: then a LINE", x.line(0, 0, 1), 1);
        CHECK.same("wiped: then another", x.line(0, 0, 2), 2);
        CHECK.same("wiped: the DECOY has no needs left over", x.needs(0, 2), 0);
        CHECK.same("wiped: no PARTNER left over", x.told(1, 4), BlockMarker.NONE);
        CHECK.same("wiped: input", x.input(1, 1, 1, 1, 1, 1), 0);
        x.lay(0, 0);
        CHECK.same("wiped: the DECOY is none of the MODEL", x.mark(), 3);
    }

    private static void told() {
        BlockMarker x = Samples.sums();
        long[][] want = {{0, 0, 5, 0, -1}, {0, 1, 7, 0, -1}, {2, 0, 1, 0, 7}, {4, 0, 0, 0, -1}, {3, 1, 0, 0, -1},
            {4, 1, 0, 0, -1}, {0, 0, 9, 1, -1}, {2, 1, 0, 2, 2}};
        for (int l = 0; l < want.length; l++) {
            for (int what = 0; what < 5; what++) {
                CHECK.same("told(" + l + ", " + what + ")", x.told(l, what), want[l][what]);
            }
        }
        CHECK.same("told(0, 5)", x.told(0, 5), BlockMarker.OUTSIDE);
        CHECK.same("told(0, -1)", x.told(0, -1), BlockMarker.OUTSIDE);
        CHECK.same("told(8, 5): UNKNOWN first", x.told(8, 5), BlockMarker.UNKNOWN);
        CHECK.same("told(-1, 0)", x.told(-1, 0), BlockMarker.UNKNOWN);
        x.lay(0, 0);
        CHECK.same("told(0, 2) while THE ANSWER is not empty", x.told(0, 2), 5);
    }
}
