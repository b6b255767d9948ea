import java.util.function.Supplier;

/** The boundary cases of promises 18 to 21, each under the document's sentence that names it. */
public final class RunsBoundsTest {
    private static final int MIN = Integer.MIN_VALUE, MAX = Integer.MAX_VALUE;
    private static final int NONE = BlockMarker.NONE, UNKNOWN = BlockMarker.UNKNOWN;
    private static final Check CHECK = new Check("RunsBoundsTest");

    public static void main(String[] args) {
        addWraps();
        timesWraps();
        moreIfAboveZero();
        moreWraps();
        variablesByThemselves();
        theFirstAndTheLastVariable();
        runByWhichInput();
        runOfNothing();
        runPrintsSixteen();
        runStartsAnew();
        printedWhich();
        printedOfNoRun();
        valueOfWhich();
        valueOfNoRun();
        refusedRunLeavesTheLatest();
        latestRunStays();
        alikeByNoInput();
        alikeOfTheEmptyAnswer();
        alikeByTheFirstAndTheLastInput();
        alikeByHowManyInts();
        alikeAgain();
        alikeByOneInt();
        alikeLooksAtNothingElse();
        CHECK.end();
    }

    /** VARIABLE 0 behind one LINE by an INPUT of a and b. */
    private static void oneLine(String name, int kind, int w, int a, int b, int want) {
        BlockMarker x = new BlockMarker();
        x.line(kind, 0, w);
        x.line(4, 0, 0);
        x.input(a, b, 2, 3, 4, 5);
        Samples.layAll(x, 0, 1);
        for (boolean model : new boolean[] {true, false}) {
            String call = name + " of " + a + " and " + b + (model ? ", the MODEL" : ", THE ANSWER");
            CHECK.same(call + ": run()", x.run(0, model), 1);
            CHECK.same(call + ": printed(0)", x.printed(0), want);
            CHECK.same(call + ": value(0)", x.value(0), want);
            CHECK.same(call + ": value(1)", x.value(1), b);
            CHECK.same(call + ": value(5)", x.value(5), 5);
        }
    }

    /** "ADD: v becomes v and VARIABLE w (wrapping)" */
    private static void addWraps() {
        oneLine("ADD", 2, 1, MAX, 0, MAX);
        oneLine("ADD", 2, 1, MAX - 1, 1, MAX);
        oneLine("ADD", 2, 1, MAX, 1, MIN);
        oneLine("ADD", 2, 1, MAX, MAX, -2);
        oneLine("ADD", 2, 1, MIN, 0, MIN);
        oneLine("ADD", 2, 1, MIN + 1, -1, MIN);
        oneLine("ADD", 2, 1, MIN, -1, MAX);
        oneLine("ADD", 2, 1, MIN, MIN, 0);
        oneLine("ADD", 2, 1, MIN, MAX, -1);
    }

    /** "TIMES: v becomes v times VARIABLE w (wrapping)" */
    private static void timesWraps() {
        oneLine("TIMES", 3, 1, 46340, 46340, 2147395600);
        oneLine("TIMES", 3, 1, 46341, 46341, -2147479015);
        oneLine("TIMES", 3, 1, 65536, 65536, 0);
        oneLine("TIMES", 3, 1, MAX, 2, -2);
        oneLine("TIMES", 3, 1, MAX, MAX, 1);
        oneLine("TIMES", 3, 1, MIN, 1, MIN);
        oneLine("TIMES", 3, 1, MIN, -1, MIN);
        oneLine("TIMES", 3, 1, MIN, 2, 0);
        oneLine("TIMES", 3, 1, MIN, MAX, MIN);
        oneLine("TIMES", 3, 1, MAX, -1, MIN + 1);
        oneLine("TIMES", 3, 1, MAX, 0, 0);
    }

    /** "MORE: v becomes v and 1, if VARIABLE w is above 0" */
    private static void moreIfAboveZero() {
        oneLine("MORE", 6, 1, 10, MIN, 10);
        oneLine("MORE", 6, 1, 10, -1, 10);
        oneLine("MORE", 6, 1, 10, 0, 10);
        oneLine("MORE", 6, 1, 10, 1, 11);
        oneLine("MORE", 6, 1, 10, MAX, 11);
    }

    /** MORE at the last int: all int arithmetic wraps. */
    private static void moreWraps() {
        oneLine("MORE", 6, 1, MAX - 1, 1, MAX);
        oneLine("MORE", 6, 1, MAX, 1, MIN);
        oneLine("MORE", 6, 1, MAX, 0, MAX);
        oneLine("MORE", 6, 1, MIN, 1, MIN + 1);
    }

    /** v and w may be the same VARIABLE. */
    private static void variablesByThemselves() {
        oneLine("COPY by itself", 1, 0, MIN, 9, MIN);
        oneLine("ADD to itself", 2, 0, MIN, 9, 0);
        oneLine("ADD to itself", 2, 0, MAX, 9, -2);
        oneLine("TIMES by itself", 3, 0, MIN, 9, 0);
        oneLine("TIMES by itself", 3, 0, 46341, 9, -2147479015);
        oneLine("MORE by itself", 6, 0, 0, 9, 0);
        oneLine("MORE by itself", 6, 0, 1, 9, 2);
        oneLine("MORE by itself", 6, 0, MAX, 9, MIN);
        oneLine("MORE by itself", 6, 0, MIN, 9, MIN);
    }

    /** "VARIABLES 0 to 5 are ints" */
    private static void theFirstAndTheLastVariable() {
        BlockMarker x = new BlockMarker();
        x.line(1, 0, 5);
        x.line(2, 5, 0);
        x.line(4, 5, 0);
        x.line(4, 0, 0);
        x.input(1, 2, 3, 4, 5, 6);
        CHECK.same("run(0, true)", x.run(0, true), 2);
        CHECK.same("VARIABLE 5 printed", x.printed(0), 12);
        CHECK.same("VARIABLE 0 printed", x.printed(1), 6);
        CHECK.same("value(0)", x.value(0), 6);
        CHECK.same("value(5)", x.value(5), 12);
    }

    private static Supplier<BlockMarker> withInputs(int many) {
        return () -> {
            BlockMarker x = new BlockMarker();
            x.line(2, 0, 1);
            x.line(4, 0, 0);
            for (int i = 0; i < many; i++) {
                x.input(100 * i, 7, 0, 0, 0, 0);
            }
            x.run(0, true);
            x.lay(1, 0);
            return x;
        };
    }

    /** run: "UNKNOWN." */
    private static void runByWhichInput() {
        for (int many : new int[] {0, 1, 8}) {
            for (int input : new int[] {MIN, -1, many, MAX}) {
                String call = "run(" + input + ") by " + many;
                CHECK.leaves(withInputs(many), call + ", the MODEL", x -> x.run(input, true), UNKNOWN);
                CHECK.leaves(withInputs(many), call + ", THE ANSWER", x -> x.run(input, false), UNKNOWN);
            }
        }
        BlockMarker x = withInputs(8).get();
        CHECK.same("run(7, true)", x.run(7, true), 1);
        CHECK.same("printed(0) by the last INPUT", x.printed(0), 707);
        CHECK.same("run(0, false)", x.run(0, false), 1);
        CHECK.same("printed(0) by the first INPUT", x.printed(0), 0);
    }

    /** "how many ints it PRINTED": none. */
    private static void runOfNothing() {
        BlockMarker x = new BlockMarker();
        x.input(MIN, MAX, 1, 2, 3, 4);
        for (boolean model : new boolean[] {true, false}) {
            CHECK.same("no LINES: run(0)", x.run(0, model), 0);
            CHECK.same("no LINES: printed(0)", x.printed(0), 0);
            CHECK.same("no LINES: value(0) is the INPUT's", x.value(0), MIN);
            CHECK.same("no LINES: value(1) is the INPUT's", x.value(1), MAX);
        }
        BlockMarker silent = Samples.notes(12);
        silent.input(0, 0, 0, 0, 0, 0);
        CHECK.same("no PRINT: run(0, true)", silent.run(0, true), 0);
    }

    private static BlockMarker sixteenPrints() {
        BlockMarker x = new BlockMarker();
        for (int l = 0; l < 12; l++) {
            x.line(4, l % 6, 0);
        }
        for (int l = 12; l < 16; l++) {
            x.decoy(4, l % 6, 0);
        }
        x.input(10, 11, 12, 13, 14, 15);
        for (int l = 0; l < 16; l++) {
            x.lay(l, l);
        }
        return x;
    }

    /** "the ints printed (16 at most)" */
    private static void runPrintsSixteen() {
        BlockMarker x = sixteenPrints();
        CHECK.same("run(0, false)", x.run(0, false), 16);
        for (int k = 0; k < 16; k++) {
            CHECK.same("printed(" + k + ")", x.printed(k), 10 + k % 6);
        }
        CHECK.same("printed(16)", x.printed(16), 0);
        CHECK.same("a 17th LINE can't be laid", x.lay(0, 16), BlockMarker.STATE);
        CHECK.same("run(0, false) again", x.run(0, false), 16);
    }

    /** "VARIABLES are first" what the INPUT tells, in each run(). */
    private static void runStartsAnew() {
        BlockMarker x = withInputs(1).get();
        for (int i = 0; i < 3; i++) {
            CHECK.same("run(0, true)", x.run(0, true), 1);
            CHECK.same("value(0) is not added up", x.value(0), 7);
            CHECK.same("printed(1) is not added up", x.printed(1), 0);
        }
    }

    /** "The k-th int of the latest run(); 0 also: there is none." */
    private static void printedWhich() {
        Supplier<BlockMarker> run = () -> {
            BlockMarker x = sixteenPrints();
            x.run(0, true);
            return x;
        };
        for (int k : new int[] {MIN, -1, 12, 15, 16, MAX}) {
            CHECK.leaves(run, "printed(" + k + ") of 12", x -> x.printed(k), 0);
        }
        CHECK.leaves(run, "printed(0)", x -> x.printed(0), 10);
        CHECK.leaves(run, "printed(11)", x -> x.printed(11), 15);
        BlockMarker shorter = sixteenPrints();
        shorter.run(0, false);
        shorter.run(0, true);
        CHECK.same("printed(12): none of the run() ahead of the latest", shorter.printed(12), 0);
        shorter.clear();
        CHECK.same("run(0, false) of nothing", shorter.run(0, false), 0);
        CHECK.same("printed(0): none of the run() ahead of the latest", shorter.printed(0), 0);
    }

    /** printed: "0 also: there is none": no run() yet. */
    private static void printedOfNoRun() {
        for (int k : new int[] {MIN, -1, 0, 15, 16, MAX}) {
            CHECK.leaves(BlockMarker::new, "new: printed(" + k + ")", x -> x.printed(k), 0);
            CHECK.leaves(RunsBoundsTest::sixteenPrints, "no run() yet: printed(" + k + ")", x -> x.printed(k), 0);
        }
    }

    /** value: "0 also: no such one" */
    private static void valueOfWhich() {
        Supplier<BlockMarker> run = () -> {
            BlockMarker x = sixteenPrints();
            x.run(0, true);
            return x;
        };
        for (int v : new int[] {MIN, -1, 6, 7, MAX}) {
            CHECK.leaves(run, "value(" + v + ")", x -> x.value(v), 0);
        }
        CHECK.leaves(run, "value(0)", x -> x.value(0), 10);
        CHECK.leaves(run, "value(5)", x -> x.value(5), 15);
    }

    /** value: "0 also: .. no run() yet." */
    private static void valueOfNoRun() {
        for (int v : new int[] {MIN, -1, 0, 5, 6, MAX}) {
            CHECK.leaves(BlockMarker::new, "new: value(" + v + ")", x -> x.value(v), 0);
            CHECK.leaves(RunsBoundsTest::sixteenPrints, "no run() yet: value(" + v + ")", x -> x.value(v), 0);
        }
    }

    /** run: "UNKNOWN", which changes nothing: neither the first nor a later latest run(). */
    private static void refusedRunLeavesTheLatest() {
        BlockMarker x = sixteenPrints();
        CHECK.same("run(1, true)", x.run(1, true), UNKNOWN);
        CHECK.same("no run() yet: value(0)", x.value(0), 0);
        x.run(0, true);
        CHECK.same("run(-1, false)", x.run(-1, false), UNKNOWN);
        CHECK.same("the latest run(): printed(11)", x.printed(11), 15);
        CHECK.same("the latest run(): value(5)", x.value(5), 15);
    }

    /** "the latest run()": what is not run() or wipe() leaves it. */
    private static void latestRunStays() {
        BlockMarker x = sixteenPrints();
        x.run(0, true);
        x.alike();
        x.follow();
        x.move(0, 1);
        x.take(0);
        x.clear();
        x.input(1, 1, 1, 1, 1, 1);
        CHECK.same("printed(0)", x.printed(0), 10);
        CHECK.same("printed(11)", x.printed(11), 15);
        CHECK.same("value(5)", x.value(5), 15);
    }

    private static Supplier<BlockMarker> printing(int inputs, int... row) {
        return () -> {
            BlockMarker x = new BlockMarker();
            x.line(4, 0, 0);
            x.line(4, 1, 0);
            x.decoy(4, 0, 0);
            x.decoy(0, 0, 9);
            for (int i = 0; i < inputs; i++) {
                x.input(3, 3, 0, 0, 0, 0);
            }
            Samples.layAll(x, row);
            return x;
        };
    }

    /** "It runs ALIKE, if it PRINTED what THE MODEL ORDER PRINTS, by each INPUT": there is none. */
    private static void alikeByNoInput() {
        CHECK.leaves(BlockMarker::new, "new: alike()", x -> x.alike(), NONE);
        CHECK.leaves(printing(0), "no INPUT, none laid: alike()", x -> x.alike(), NONE);
        CHECK.leaves(printing(0, 3, 2), "no INPUT, DECOYS laid: alike()", x -> x.alike(), NONE);
    }

    /** alike: of the empty ANSWER */
    private static void alikeOfTheEmptyAnswer() {
        CHECK.leaves(printing(1), "the MODEL prints, THE ANSWER is empty", x -> x.alike(), 0);
        Supplier<BlockMarker> silent = () -> {
            BlockMarker x = Samples.notes(3);
            x.input(1, 1, 1, 1, 1, 1);
            return x;
        };
        CHECK.leaves(silent, "neither prints", x -> x.alike(), NONE);
    }

    /** LINE 0 prints VARIABLE 0, DECOY 1 prints VARIABLE 1: they differ by the INPUTS from one on. */
    private static Supplier<BlockMarker> differingFrom(int first) {
        return () -> {
            BlockMarker x = new BlockMarker();
            x.line(4, 0, 0);
            x.decoy(4, 1, 0);
            for (int i = 0; i < 8; i++) {
                x.input(5, i < first ? 5 : 6, 0, 0, 0, 0);
            }
            x.run(0, true);
            x.lay(1, 0);
            return x;
        };
    }

    /** alike: "NONE (yes); the least INPUT by which it does not." */
    private static void alikeByTheFirstAndTheLastInput() {
        CHECK.leaves(differingFrom(0), "all INPUTS differ", x -> x.alike(), 0);
        CHECK.leaves(differingFrom(1), "those from 1 on differ", x -> x.alike(), 1);
        CHECK.leaves(differingFrom(7), "the last INPUT alone differs", x -> x.alike(), 7);
        CHECK.leaves(differingFrom(8), "no INPUT differs", x -> x.alike(), NONE);
    }

    /** "if it PRINTED what THE MODEL ORDER PRINTS": no int more, none less. */
    private static void alikeByHowManyInts() {
        CHECK.leaves(printing(1, 0, 1), "as many", x -> x.alike(), NONE);
        CHECK.leaves(printing(1, 0), "one int too few", x -> x.alike(), 0);
        CHECK.leaves(printing(1, 0, 1, 2), "one int too many", x -> x.alike(), 0);
        CHECK.leaves(printing(1, 2, 0), "the same ints, by a DECOY", x -> x.alike(), NONE);
        CHECK.leaves(printing(1, 1, 0), "the same ints, in no RIGHT ORDER", x -> x.alike(), NONE);
    }

    /** "if it PRINTED": by THE ANSWER as it is now, nothing is left of one that was longer or shorter. */
    private static void alikeAgain() {
        BlockMarker x = printing(2, 0, 1, 2).get();
        CHECK.same("one int too many", x.alike(), 0);
        x.take(2);
        CHECK.same("as many again", x.alike(), NONE);
        x.take(0);
        CHECK.same("one int too few", x.alike(), 0);
        x.clear();
        CHECK.same("none", x.alike(), 0);
        Samples.layAll(x, 0, 1);
        CHECK.same("as many at last", x.alike(), NONE);
        x.wipe();
        x.line(4, 0, 0);
        x.input(8, 8, 8, 8, 8, 8);
        x.lay(0, 0);
        CHECK.same("wiped, with a shorter MODEL", x.alike(), NONE);
    }

    private static BlockMarker differingAt(int place) {
        BlockMarker x = Samples.prints(12);
        x.decoy(4, 5, 0);
        x.input(1, 1, 1, 1, 1, 2);
        x.input(1, 1, 1, 1, 1, 1);
        for (int l = 0; l < 12; l++) {
            x.lay(l == place ? 12 : l, l);
        }
        return x;
    }

    /** "if it PRINTED what THE MODEL ORDER PRINTS": the first int and the last. */
    private static void alikeByOneInt() {
        CHECK.same("the first int differs", differingAt(0).alike(), 0);
        CHECK.same("the last int but one differs", differingAt(10).alike(), 0);
        CHECK.same("no int differs", differingAt(12).alike(), NONE);
        CHECK.same("the last int is the same by another LINE", differingAt(11).alike(), NONE);
        BlockMarker x = new BlockMarker();
        x.line(4, 0, 0);
        x.decoy(4, 1, 0);
        x.input(MIN, MIN, 0, 0, 0, 0);
        x.input(MIN, MAX, 0, 0, 0, 0);
        x.lay(1, 0);
        CHECK.same("MIN is not MAX", x.alike(), 1);
    }

    /** ALIKE is by what is PRINTED alone, not by what VARIABLES are behind it. */
    private static void alikeLooksAtNothingElse() {
        CHECK.leaves(printing(1, 0, 1, 3), "a DECOY that writes behind all", x -> x.alike(), NONE);
        CHECK.leaves(printing(1, 3, 0, 1), "a DECOY that writes ahead of all", x -> x.alike(), 0);
    }
}
