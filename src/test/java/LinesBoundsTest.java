import java.util.function.Supplier;
import java.util.function.ToLongFunction;

/** The boundary cases of promises 1 to 7, each under the document's sentence that names it. */
public final class LinesBoundsTest {
    private static final int MIN = Integer.MIN_VALUE, MAX = Integer.MAX_VALUE;
    private static final int NONE = BlockMarker.NONE, UNKNOWN = BlockMarker.UNKNOWN, OUTSIDE = BlockMarker.OUTSIDE;
    private static final int STATE = BlockMarker.STATE, FULL = BlockMarker.FULL;
    private static final int[] NOT_A_VARIABLE = {MIN, -1, 6, MAX};
    private static final int[] ANY_INT = {MIN, -1, 0, 5, 6, MAX};
    private static final Check CHECK = new Check("LinesBoundsTest");

    public static void main(String[] args) {
        newObjectIsEmpty();
        sixteenLines();
        twelveOfTheModel();
        kinds();
        vIsZeroToFive();
        wIsZeroToFive();
        setTakesAnyW();
        printLooksNotAtW();
        noteLooksAtNeither();
        whileTheAnswerIsEmpty();
        refusalsOfLineInOrder();
        refusalsOfDecoyInOrder();
        refusalsOfWrongInOrder();
        oneWrongLineAtMost();
        eightInputs();
        inputsOfAnyInts();
        refusalsOfInputInOrder();
        wipeOfNothing();
        wipeOfAll();
        wipeLeavesTheWholeRoom();
        wipeTakesTheRun();
        toldOfWhichLine();
        toldWhat();
        toldOfNoPartner();
        CHECK.end();
    }

    /** The three calls that bring a LINE; the WRONG one is that of LINE 0. */
    private static ToLongFunction<BlockMarker> bring(int role, int kind, int v, int w) {
        return role == 0 ? x -> x.line(kind, v, w) : role == 1 ? x -> x.decoy(kind, v, w) : x -> x.wrong(0, kind, v, w);
    }

    private static String nameOf(int role, int kind, int v, int w) {
        String name = role == 0 ? "line(" : role == 1 ? "decoy(" : "wrong(0, ";
        return name + kind + ", " + v + ", " + w + ")";
    }

    private static void taken(int kind, int v, int w) {
        for (int role = 0; role < 3; role++) {
            BlockMarker x = Samples.mixed(3, 0, 1);
            String call = nameOf(role, kind, v, w);
            CHECK.same(call, bring(role, kind, v, w).applyAsLong(x), 4);
            CHECK.same(call + ": told KIND", x.told(4, 0), kind);
            CHECK.same(call + ": told v", x.told(4, 1), v);
            CHECK.same(call + ": told w", x.told(4, 2), w);
            CHECK.same(call + ": told ROLE", x.told(4, 3), role);
        }
    }

    private static void outside(int kind, int v, int w) {
        for (int role = 0; role < 3; role++) {
            CHECK.leaves(() -> Samples.mixed(3, 0, 1), nameOf(role, kind, v, w), bring(role, kind, v, w), OUTSIDE);
        }
    }

    /** "No LINES, INPUTS; THE ANSWER is empty." */
    private static void newObjectIsEmpty() {
        CHECK.leaves(BlockMarker::new, "new: count(0)", x -> x.count(0), 0);
        CHECK.leaves(BlockMarker::new, "new: count(4)", x -> x.count(4), 0);
        CHECK.leaves(BlockMarker::new, "new: size()", x -> x.size(), 0);
        CHECK.leaves(BlockMarker::new, "new: told(0, 0)", x -> x.told(0, 0), UNKNOWN);
        CHECK.leaves(BlockMarker::new, "new: needs(0, 0)", x -> x.needs(0, 0), UNKNOWN);
        CHECK.leaves(BlockMarker::new, "new: wrong(0, 5, 0, 0)", x -> x.wrong(0, 5, 0, 0), UNKNOWN);
        CHECK.leaves(BlockMarker::new, "new: lay(0, 0)", x -> x.lay(0, 0), UNKNOWN);
        CHECK.leaves(BlockMarker::new, "new: run(0, true)", x -> x.run(0, true), UNKNOWN);
        CHECK.leaves(BlockMarker::new, "new: run(0, false)", x -> x.run(0, false), UNKNOWN);
        CHECK.leaves(BlockMarker::new, "new: at(0)", x -> x.at(0), NONE);
        CHECK.leaves(BlockMarker::new, "new: take(0)", x -> x.take(0), OUTSIDE);
        CHECK.leaves(BlockMarker::new, "new: move(0, 0)", x -> x.move(0, 0), OUTSIDE);
        CHECK.leaves(BlockMarker::new, "new: kept(0)", x -> x.kept(0), OUTSIDE);
        CHECK.leaves(BlockMarker::new, "new: follow()", x -> x.follow(), NONE);
        BlockMarker x = new BlockMarker();
        CHECK.same("new: the first LINE", x.line(5, 0, 0), 0);
        CHECK.same("new: the first INPUT", x.input(0, 0, 0, 0, 0, 0), 0);
    }

    /** "LINES (16 at most, numbered as they come)"; "FULL: 16 LINES" */
    private static void sixteenLines() {
        for (int role = 0; role < 3; role++) {
            int last = role;
            BlockMarker x = Samples.mixed(5, 0, 10);
            CHECK.same("the 16th: " + nameOf(role, 5, 0, 0), bring(role, 5, 0, 0).applyAsLong(x), 15);
            CHECK.same("16 LINES: count(0)", x.count(0), 16);
            Supplier<BlockMarker> sixteen = () -> {
                BlockMarker y = Samples.mixed(5, 0, 10);
                bring(last, 5, 0, 0).applyAsLong(y);
                return y;
            };
            CHECK.leaves(sixteen, "a 17th: line", y -> y.line(5, 0, 0), FULL);
            CHECK.leaves(sixteen, "a 17th: decoy", y -> y.decoy(5, 0, 0), FULL);
            CHECK.leaves(sixteen, "a 17th: wrong", y -> y.wrong(1, 5, 0, 0), FULL);
        }
        BlockMarker decoys = new BlockMarker();
        for (int l = 0; l < 16; l++) {
            CHECK.same("16 DECOYS", decoys.decoy(5, 0, 0), l);
        }
        CHECK.same("a 17th DECOY", decoys.decoy(5, 0, 0), FULL);
        BlockMarker pairs = new BlockMarker();
        for (int l = 0; l < 16; l += 2) {
            CHECK.same("8 pairs: line", pairs.line(5, 0, 0), l);
            CHECK.same("8 pairs: wrong", pairs.wrong(l, 5, 0, 0), l + 1);
        }
        CHECK.same("8 pairs, and one LINE more", pairs.line(5, 0, 0), FULL);
    }

    /** "FULL: .. 12 of the MODEL." */
    private static void twelveOfTheModel() {
        BlockMarker x = new BlockMarker();
        for (int l = 0; l < 12; l++) {
            CHECK.same("LINE " + l + " of the MODEL", x.line(4, 0, 0), l);
        }
        CHECK.leaves(() -> Samples.mixed(12, 0, 0), "a 13th of the MODEL", y -> y.line(5, 0, 0), FULL);
        CHECK.same("12 of the MODEL, and a DECOY", x.decoy(5, 0, 0), 12);
        CHECK.same("12 of the MODEL, and a WRONG one", x.wrong(0, 5, 0, 0), 13);
        CHECK.same("a 13th of the MODEL, with DECOYS", x.line(5, 0, 0), FULL);
        CHECK.same("count(1)", x.count(1), 12);
        BlockMarker late = Samples.mixed(11, 2, 2);
        CHECK.same("the 12th of the MODEL as the 16th LINE", late.line(5, 0, 0), 15);
        CHECK.same("count(1), DECOYS and WRONG ones are not counted", late.count(1), 12);
    }

    /** "0 SET .. 6 MORE"; "OUTSIDE: KIND" */
    private static void kinds() {
        for (int kind = 0; kind <= 6; kind++) {
            taken(kind, 0, 0);
        }
        for (int kind : new int[] {MIN, -1, 7, MAX}) {
            outside(kind, 0, 0);
        }
    }

    /** "v is 0 to 5" */
    private static void vIsZeroToFive() {
        for (int kind : new int[] {0, 1, 2, 3, 4, 6}) {
            taken(kind, 0, 1);
            taken(kind, 5, 1);
            for (int v : NOT_A_VARIABLE) {
                outside(kind, v, 1);
            }
        }
    }

    /** "w is 0 to 5 but in SET" */
    private static void wIsZeroToFive() {
        for (int kind : new int[] {1, 2, 3, 6}) {
            taken(kind, 1, 0);
            taken(kind, 1, 5);
            for (int w : NOT_A_VARIABLE) {
                outside(kind, 1, w);
            }
        }
    }

    /** "w is 0 to 5 but in SET": there it is any int. */
    private static void setTakesAnyW() {
        for (int w : ANY_INT) {
            taken(0, 1, w);
            BlockMarker x = new BlockMarker();
            x.line(0, 5, w);
            x.input(8, 8, 8, 8, 8, 8);
            x.run(0, true);
            CHECK.same("SET 5 to " + w, x.value(5), w);
        }
    }

    /** "in PRINT, NOTE w is not looked at" */
    private static void printLooksNotAtW() {
        for (int w : ANY_INT) {
            taken(4, 1, w);
            BlockMarker x = new BlockMarker();
            x.line(0, 0, 7);
            x.line(4, 5, w);
            x.input(1, 2, 3, 4, 5, 6);
            CHECK.same("PRINT 5 with w " + w, x.run(0, true), 1);
            CHECK.same("PRINT 5 with w " + w + " printed", x.printed(0), 6);
            CHECK.same("PRINT 5 with w " + w + " does not READ it", x.needs(0, 1), 0);
        }
    }

    /** "in NOTE v neither" */
    private static void noteLooksAtNeither() {
        for (int v : ANY_INT) {
            for (int w : ANY_INT) {
                taken(5, v, w);
                BlockMarker x = new BlockMarker();
                x.line(0, 0, 7);
                x.line(5, v, w);
                x.line(0, 5, 7);
                x.input(1, 2, 3, 4, 5, 6);
                CHECK.same("NOTE " + v + " " + w, x.run(0, true), 0);
                CHECK.same("NOTE " + v + " " + w + " changes nothing", x.value(1), 2);
                CHECK.same("NOTE " + v + " " + w + " needs nothing", x.count(5), 0);
            }
        }
    }

    /** "lines, inputs: while THE ANSWER is empty." */
    private static void whileTheAnswerIsEmpty() {
        for (int l : new int[] {0, 1, 3}) {
            Supplier<BlockMarker> laid = () -> {
                BlockMarker x = Samples.mixed(3, 0, 1);
                x.lay(l, 0);
                return x;
            };
            for (int role = 0; role < 3; role++) {
                CHECK.leaves(laid, "THE ANSWER has a LINE: " + nameOf(role, 5, 0, 0), bring(role, 5, 0, 0), STATE);
            }
            CHECK.leaves(laid, "THE ANSWER has a LINE: input", x -> x.input(0, 0, 0, 0, 0, 0), STATE);
        }
        emptyAgain("take()", x -> x.take(0));
        emptyAgain("clear()", x -> x.clear());
        emptyAgain("follow(), a DROP", x -> x.follow());
        BlockMarker wiped = Samples.mixed(3, 0, 1);
        wiped.lay(0, 0);
        wiped.wipe();
        CHECK.same("empty again by wipe(): line", wiped.line(5, 0, 0), 0);
        CHECK.same("empty again by wipe(): input", wiped.input(0, 0, 0, 0, 0, 0), 0);
    }

    private static void emptyAgain(String how, ToLongFunction<BlockMarker> action) {
        BlockMarker x = Samples.mixed(3, 0, 1);
        x.lay(3, 0);
        CHECK.same("line, ahead of " + how, x.line(5, 0, 0), STATE);
        action.applyAsLong(x);
        CHECK.same("empty again by " + how, x.size(), 0);
        CHECK.same("empty again by " + how + ": line", x.line(5, 0, 0), 4);
        CHECK.same("empty again by " + how + ": decoy", x.decoy(5, 0, 0), 5);
        CHECK.same("empty again by " + how + ": wrong", x.wrong(0, 5, 0, 0), 6);
        CHECK.same("empty again by " + how + ": input", x.input(0, 0, 0, 0, 0, 0), 1);
    }

    private static Supplier<BlockMarker> filled(int ofModel, int decoys, boolean laid) {
        return () -> {
            BlockMarker x = Samples.mixed(ofModel, 1, decoys);
            if (laid) {
                x.lay(1, 0);
            }
            return x;
        };
    }

    /** How many of the MODEL, how many DECOYS, with one WRONG LINE: room for one, no room in one way, in both. */
    private static final int[][] FILLINGS = {{11, 3}, {12, 2}, {11, 4}, {12, 3}};

    private static boolean[] bothWays() {
        return new boolean[] {false, true};
    }

    /** line: "OUTSIDE: KIND, v, w; STATE; FULL" */
    private static void refusalsOfLineInOrder() {
        for (int[] f : FILLINGS) {
            for (boolean laid : bothWays()) {
                boolean full = f[0] == 12 || f[0] + f[1] + 1 == 16;
                String in = " in " + f[0] + " and " + f[1] + (laid ? ", laid" : "");
                CHECK.leaves(filled(f[0], f[1], laid), "line OUTSIDE" + in, x -> x.line(2, 0, 6), OUTSIDE);
                if (laid || full) {
                    CHECK.leaves(filled(f[0], f[1], laid), "line" + in, x -> x.line(2, 0, 5), laid ? STATE : FULL);
                } else {
                    CHECK.same("line" + in, filled(f[0], f[1], laid).get().line(2, 0, 5), 15);
                }
            }
        }
    }

    /** decoy: "OUTSIDE; STATE; FULL." */
    private static void refusalsOfDecoyInOrder() {
        for (int[] f : FILLINGS) {
            for (boolean laid : bothWays()) {
                boolean full = f[0] + f[1] + 1 == 16;
                String in = " in " + f[0] + " and " + f[1] + (laid ? ", laid" : "");
                CHECK.leaves(filled(f[0], f[1], laid), "decoy OUTSIDE" + in, x -> x.decoy(4, 6, 0), OUTSIDE);
                if (laid || full) {
                    CHECK.leaves(filled(f[0], f[1], laid), "decoy" + in, x -> x.decoy(4, 5, 0), laid ? STATE : FULL);
                } else {
                    CHECK.same("decoy" + in, filled(f[0], f[1], laid).get().decoy(4, 5, 0), 15);
                }
            }
        }
    }

    /** wrong: "UNKNOWN: p is no LINE; OUTSIDE: KIND, v, w; STATE (also: p is not of the MODEL, or has one already); FULL." */
    private static void refusalsOfWrongInOrder() {
        for (int[] f : FILLINGS) {
            for (boolean laid : bothWays()) {
                int many = f[0] + f[1] + 1;
                for (int p : new int[] {MIN, -1, many, MAX}) {
                    wrongRefused(f, laid, p, 5, UNKNOWN);
                    wrongRefused(f, laid, p, 7, UNKNOWN);
                }
                int hasOneAlready = 0;
                int isWrong = f[0];
                int isDecoy = many - 1;
                for (int p : new int[] {hasOneAlready, isWrong, isDecoy}) {
                    wrongRefused(f, laid, p, 7, OUTSIDE);
                    wrongRefused(f, laid, p, 5, STATE);
                }
                int lastOfModel = f[0] - 1;
                wrongRefused(f, laid, lastOfModel, 7, OUTSIDE);
                if (laid || many == 16) {
                    wrongRefused(f, laid, lastOfModel, 5, laid ? STATE : FULL);
                } else {
                    CHECK.same("wrong in " + f[0], filled(f[0], f[1], laid).get().wrong(lastOfModel, 5, 0, 0), 15);
                }
            }
        }
    }

    private static void wrongRefused(int[] filling, boolean laid, int p, int kind, int want) {
        String call = "wrong(" + p + ", " + kind + ", 0, 0) in " + filling[0] + " and " + filling[1] + (laid ? ", laid" : "");
        CHECK.leaves(filled(filling[0], filling[1], laid), call, x -> x.wrong(p, kind, 0, 0), want);
    }

    /** "a LINE of the MODEL (each has one WRONG LINE at most)" */
    private static void oneWrongLineAtMost() {
        BlockMarker x = Samples.mixed(4, 0, 0);
        for (int p = 0; p < 4; p++) {
            CHECK.same("the first of LINE " + p, x.wrong(p, 5, 0, 0), 4 + p);
            CHECK.same("the second of LINE " + p, x.wrong(p, 5, 0, 0), STATE);
        }
        for (int p = 0; p < 4; p++) {
            CHECK.same("LINE " + p + " keeps its first", x.told(p, 4), 4 + p);
            CHECK.same("WRONG LINE " + (4 + p), x.told(4 + p, 4), p);
        }
        CHECK.same("count(3)", x.count(3), 4);
    }

    private static BlockMarker withInputs(int many) {
        BlockMarker x = Samples.notes(1);
        for (int i = 0; i < many; i++) {
            x.input(i, -i, MIN, MAX, 0, 1);
        }
        return x;
    }

    /** "INPUTS (8 at most, numbered): six ints" */
    private static void eightInputs() {
        CHECK.same("the first INPUT", withInputs(0).input(0, 0, 0, 0, 0, 0), 0);
        CHECK.same("the eighth INPUT", withInputs(7).input(0, 0, 0, 0, 0, 0), 7);
        CHECK.leaves(() -> withInputs(8), "a ninth INPUT", x -> x.input(9, 9, 9, 9, 9, 9), FULL);
        CHECK.same("count(4)", withInputs(8).count(4), 8);
    }

    /** "six ints, what VARIABLES are first": any ints, each in its place. */
    private static void inputsOfAnyInts() {
        int[] row = {MIN, MAX, -1, 0, 6, 7};
        for (int shift = 0; shift < 6; shift++) {
            int[] r = new int[6];
            for (int v = 0; v < 6; v++) {
                r[v] = row[(v + shift) % 6];
            }
            BlockMarker x = new BlockMarker();
            CHECK.same("an INPUT of edges", x.input(r[0], r[1], r[2], r[3], r[4], r[5]), 0);
            CHECK.same("run(0, false)", x.run(0, false), 0);
            for (int v = 0; v < 6; v++) {
                CHECK.same("VARIABLE " + v + " is first", x.value(v), r[v]);
            }
        }
    }

    /** input: "STATE; FULL." */
    private static void refusalsOfInputInOrder() {
        for (int many : new int[] {7, 8}) {
            Supplier<BlockMarker> laid = () -> {
                BlockMarker x = withInputs(many);
                x.lay(0, 0);
                return x;
            };
            CHECK.leaves(laid, "input with " + many + " there, laid", x -> x.input(0, 0, 0, 0, 0, 0), STATE);
        }
    }

    /** "how many LINES there were": none. */
    private static void wipeOfNothing() {
        CHECK.leaves(BlockMarker::new, "wipe() of nothing", x -> x.wipe(), 0);
        BlockMarker inputs = new BlockMarker();
        inputs.input(1, 1, 1, 1, 1, 1);
        CHECK.same("wipe() of an INPUT alone", inputs.wipe(), 0);
        CHECK.same("the INPUT went", inputs.count(4), 0);
        BlockMarker twice = Samples.mixed(3, 1, 1);
        CHECK.same("wipe()", twice.wipe(), 5);
        CHECK.same("wipe() again", twice.wipe(), 0);
    }

    private static BlockMarker full() {
        BlockMarker x = Samples.mixed(12, 2, 2);
        for (int i = 1; i < 8; i++) {
            x.input(i, i, i, i, i, i);
        }
        for (int l = 0; l < 16; l++) {
            x.lay(l, 0);
        }
        return x;
    }

    /** "All LINES, INPUTS, the latest run() go, THE ANSWER is empty: how many LINES there were." */
    private static void wipeOfAll() {
        BlockMarker x = full();
        CHECK.same("16 LINES: wipe()", x.wipe(), 16);
        CHECK.isTrue("a wiped object shows what a new one shows", Picture.of(x).equals(Picture.of(new BlockMarker())));
        BlockMarker y = full();
        y.follow();
        y.orders();
        CHECK.same("16 LINES, one dropped: wipe() counts LINES, not places", y.wipe(), 16);
        CHECK.same("size()", y.size(), 0);
        CHECK.same("at(0)", y.at(0), NONE);
    }

    /** wipe(), then FULL as told by line(), decoy(), input(): all room is there again. */
    private static void wipeLeavesTheWholeRoom() {
        BlockMarker x = full();
        x.wipe();
        for (int l = 0; l < 12; l++) {
            CHECK.same("wiped: LINE " + l, x.line(5, 0, 0), l);
        }
        CHECK.same("wiped: a 13th of the MODEL", x.line(5, 0, 0), FULL);
        CHECK.same("wiped: no PARTNER is left over", x.wrong(0, 5, 0, 0), 12);
        for (int l = 13; l < 16; l++) {
            CHECK.same("wiped: DECOY " + l, x.decoy(5, 0, 0), l);
        }
        CHECK.same("wiped: a 17th", x.decoy(5, 0, 0), FULL);
        for (int i = 0; i < 8; i++) {
            CHECK.same("wiped: INPUT " + i, x.input(0, 0, 0, 0, 0, 0), i);
        }
        CHECK.same("wiped: a ninth INPUT", x.input(0, 0, 0, 0, 0, 0), FULL);
        CHECK.same("wiped: no needs are left over", x.count(5), 0);
        CHECK.same("wiped: orders()", x.orders(), 479001600);
    }

    /** "the latest run() go": also of THE ANSWER, also when it printed 16 ints. */
    private static void wipeTakesTheRun() {
        BlockMarker x = Samples.prints(12);
        for (int l = 12; l < 16; l++) {
            x.decoy(4, 5, 0);
        }
        x.input(1, 2, 3, 4, 5, 6);
        for (int l = 0; l < 16; l++) {
            x.lay(l, 0);
        }
        CHECK.same("run(0, false)", x.run(0, false), 16);
        x.wipe();
        for (int k = 0; k < 16; k++) {
            CHECK.same("wiped: printed(" + k + ")", x.printed(k), 0);
        }
        for (int v = 0; v < 6; v++) {
            CHECK.same("wiped: value(" + v + ")", x.value(v), 0);
        }
    }

    /** told: "UNKNOWN", ahead of "OUTSIDE" */
    private static void toldOfWhichLine() {
        for (int many : new int[] {0, 1, 16}) {
            Supplier<BlockMarker> making = () -> Samples.mixed(Math.min(many, 12), 0, Math.max(0, many - 12));
            for (int l : new int[] {MIN, -1, many, MAX}) {
                for (int what : new int[] {MIN, -1, 0, 4, 5, MAX}) {
                    CHECK.leaves(making, "told(" + l + ", " + what + ") of " + many, x -> x.told(l, what), UNKNOWN);
                }
            }
            if (many > 0) {
                CHECK.leaves(making, "told(0, 3) of " + many, x -> x.told(0, 3), 0);
                CHECK.leaves(making, "told(last, 3) of " + many, x -> x.told(many - 1, 3), many > 12 ? 1 : 0);
            }
        }
    }

    /** told: "what = 0 KIND .. 4 its PARTNER" */
    private static void toldWhat() {
        Supplier<BlockMarker> making = () -> Samples.mixed(3, 1, 1);
        for (int what : new int[] {MIN, -1, 5, MAX}) {
            CHECK.leaves(making, "told(0, " + what + ")", x -> x.told(0, what), OUTSIDE);
            CHECK.leaves(making, "told(4, " + what + ")", x -> x.told(4, what), OUTSIDE);
        }
        CHECK.leaves(making, "told(1, 0)", x -> x.told(1, 0), 1);
        CHECK.leaves(making, "told(0, 4)", x -> x.told(0, 4), 3);
        CHECK.leaves(making, "told(3, 4)", x -> x.told(3, 4), 0);
    }

    /** told: "(NONE)" */
    private static void toldOfNoPartner() {
        Supplier<BlockMarker> making = () -> Samples.mixed(3, 1, 1);
        CHECK.leaves(making, "told(2, 4): of the MODEL, with no WRONG LINE", x -> x.told(2, 4), NONE);
        CHECK.leaves(making, "told(4, 4): a DECOY", x -> x.told(4, 4), NONE);
    }
}
