/** Promises 18 to 21: run, printed, value, alike. */
public final class RunsTest {
    private static final int MIN = Integer.MIN_VALUE, MAX = Integer.MAX_VALUE;
    private static final Check CHECK = new Check("RunsTest");

    public static void main(String[] args) {
        kinds();
        more();
        answerAndModel();
        sixteenPrints();
        whatIsNotThere();
        alike();
        alikeLeavesTheRun();
        CHECK.end();
    }

    /** VARIABLE v behind a run of one LINE by an INPUT of ten, three and others. */
    private static int valueBehind(int kind, int v, int w, int a, int b) {
        BlockMarker x = new BlockMarker();
        x.line(kind, v, w);
        x.input(a, b, 30, 40, 50, 60);
        x.run(0, true);
        CHECK.same("the others stay", x.value(5), 60);
        return x.value(v);
    }

    private static void kinds() {
        CHECK.same("SET", valueBehind(0, 0, MIN, 10, 3), MIN);
        CHECK.same("COPY", valueBehind(1, 0, 1, 10, 3), 3);
        CHECK.same("ADD", valueBehind(2, 0, 1, 10, 3), 13);
        CHECK.same("ADD to itself", valueBehind(2, 0, 0, 10, 3), 20);
        CHECK.same("ADD wraps", valueBehind(2, 0, 1, MAX, 1), MIN);
        CHECK.same("TIMES", valueBehind(3, 0, 1, 10, 3), 30);
        CHECK.same("TIMES by itself", valueBehind(3, 0, 0, 10, 3), 100);
        CHECK.same("TIMES wraps", valueBehind(3, 0, 1, 65536, 65537), 65536);
        CHECK.same("PRINT", valueBehind(4, 0, 1, 10, 3), 10);
        CHECK.same("NOTE", valueBehind(5, 0, 1, 10, 3), 10);
    }

    private static void more() {
        CHECK.same("MORE by 3", valueBehind(6, 0, 1, 10, 3), 11);
        CHECK.same("MORE by 1", valueBehind(6, 0, 1, 10, 1), 11);
        CHECK.same("MORE by 0", valueBehind(6, 0, 1, 10, 0), 10);
        CHECK.same("MORE by -1", valueBehind(6, 0, 1, 10, -1), 10);
        CHECK.same("MORE wraps", valueBehind(6, 0, 1, MAX, MAX), MIN);
        CHECK.same("MORE by itself", valueBehind(6, 0, 0, MAX, 0), MIN);
    }

    private static void answerAndModel() {
        BlockMarker x = Samples.sums();
        Samples.layAll(x, 3, 6, 7, 5);
        CHECK.same("run(1, false)", x.run(1, false), 2);
        CHECK.same("printed(0)", x.printed(0), 1);
        CHECK.same("printed(1)", x.printed(1), 11);
        CHECK.same("value(0)", x.value(0), 9);
        CHECK.same("value(1)", x.value(1), 11);
        CHECK.same("value(2)", x.value(2), 3);
        CHECK.same("run(1, true)", x.run(1, true), 2);
        CHECK.same("printed(0)", x.printed(0), 12);
        CHECK.same("printed(1)", x.printed(1), 84);
        x.clear();
        CHECK.same("run(1, false) of nothing", x.run(1, false), 0);
        CHECK.same("printed(0): none of an earlier run", x.printed(0), 0);
        CHECK.same("value(5)", x.value(5), 6);
    }

    private static void sixteenPrints() {
        BlockMarker x = Samples.prints(12);
        for (int l = 12; l < 16; l++) {
            x.decoy(4, 5, 0);
        }
        x.input(1, 2, 3, 4, 5, 6);
        for (int l = 0; l < 16; l++) {
            x.lay(l, 0);
        }
        CHECK.same("run(0, false)", x.run(0, false), 16);
        CHECK.same("printed(0)", x.printed(0), 6);
        CHECK.same("printed(15)", x.printed(15), 1);
        CHECK.same("printed(16)", x.printed(16), 0);
        CHECK.same("run(0, true)", x.run(0, true), 12);
        CHECK.same("printed(12)", x.printed(12), 0);
    }

    private static void whatIsNotThere() {
        BlockMarker x = Samples.sums();
        CHECK.same("no run() yet: printed(0)", x.printed(0), 0);
        CHECK.same("no run() yet: value(0)", x.value(0), 0);
        CHECK.same("run(2, true)", x.run(2, true), BlockMarker.UNKNOWN);
        CHECK.same("run(-1, false)", x.run(-1, false), BlockMarker.UNKNOWN);
        CHECK.same("run(MAX, false)", x.run(MAX, false), BlockMarker.UNKNOWN);
        CHECK.same("a refused run() is none", x.value(0), 0);
        x.run(1, true);
        x.run(2, true);
        CHECK.same("a refused run() leaves the latest", x.printed(1), 84);
        for (int k : new int[] {MIN, -1, 2, 16, MAX}) {
            CHECK.same("printed(" + k + ")", x.printed(k), 0);
        }
        for (int v : new int[] {MIN, -1, 6, MAX}) {
            CHECK.same("value(" + v + ")", x.value(v), 0);
        }
        x.line(5, 0, 0);
        CHECK.same("the latest run() stays when LINES come", x.printed(1), 84);
        BlockMarker y = new BlockMarker();
        y.line(4, 0, 99);
        y.line(5, 99, -99);
        y.input(8, 0, 0, 0, 0, 0);
        CHECK.same("a w, v that is not looked at", y.run(0, true), 1);
        CHECK.same("printed(0)", y.printed(0), 8);
    }

    private static void alike() {
        BlockMarker x = Samples.sums();
        CHECK.same("too few prints", x.alike(), 0);
        Samples.layAll(x, 1, 0, 2, 4, 3, 5);
        CHECK.same("a RIGHT ORDER", x.alike(), BlockMarker.NONE);
        x.lay(6, 6);
        CHECK.same("a DECOY behind all runs ALIKE", x.alike(), BlockMarker.NONE);
        BlockMarker y = new BlockMarker();
        y.line(6, 0, 1);
        y.line(4, 0, 0);
        y.input(0, 0, 0, 0, 0, 0);
        y.input(0, -1, 0, 0, 0, 0);
        y.input(0, 1, 0, 0, 0, 0);
        y.input(0, 2, 0, 0, 0, 0);
        Samples.layAll(y, 1, 0);
        CHECK.same("the least INPUT that differs", y.alike(), 2);
        y.lay(y.take(0), 1);
        CHECK.same("none that differs", y.alike(), BlockMarker.NONE);
        BlockMarker z = new BlockMarker();
        z.line(4, 0, 0);
        CHECK.same("no INPUT", z.alike(), BlockMarker.NONE);
        z.decoy(4, 0, 0);
        z.input(0, 0, 0, 0, 0, 0);
        Samples.layAll(z, 0, 1);
        CHECK.same("too many prints", z.alike(), 0);
    }

    private static void alikeLeavesTheRun() {
        BlockMarker x = Samples.sums();
        x.run(1, true);
        x.alike();
        x.mark();
        CHECK.same("printed(1)", x.printed(1), 84);
        CHECK.same("value(0)", x.value(0), 12);
        x.lay(3, 0);
        x.clear();
        CHECK.same("clear() leaves the latest run()", x.printed(1), 84);
    }
}
