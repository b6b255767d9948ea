/**
 * The document from its first line to its last: each of its sentences that says what a call answers
 * or changes stands over the method that tries it, with an example worked out by hand. What lies at
 * the edges of a sentence is in the *BoundsTest files.
 */
public final class DocumentTest {
    private static final int SET = 0, COPY = 1, ADD = 2, TIMES = 3, PRINT = 4, NOTE = 5, MORE = 6;
    private static final int DROPPED = 0, ADDED = 1, MOVED = 2, SWAPPED = 3;
    private static final int NONE = BlockMarker.NONE, UNKNOWN = BlockMarker.UNKNOWN, OUTSIDE = BlockMarker.OUTSIDE;
    private static final int STATE = BlockMarker.STATE, FULL = BlockMarker.FULL;
    private static final Check CHECK = new Check("DocumentTest");

    public static void main(String[] args) {
        whatItIs();
        kinds();
        needsAndRightOrders();
        inputsAndRuns();
        answersAndMarks();
        hints();
        refusals();
        promisesOfLines();
        promisesOfOrders();
        promisesOfTheAnswer();
        promisesOfRuns();
        promisesOfMarks();
        promisesOfWhatIsTold();
        CHECK.end();
    }

    // ---- what it is

    private static void whatItIs() {
        everyOrderRunsAlike();
        fewestChanges();
        hintIsTheFirstChange();
        linesAreNumbered();
        variablesAreInts();
    }

    private static void layOrder(BlockMarker x, long k) {
        x.clear();
        for (int i = 0; i < x.count(1); i++) {
            x.lay(x.right(k, i), i);
        }
    }

    /** "what must stand ahead of what is worked out from what lines read and write; every order that keeps that runs alike" */
    private static void everyOrderRunsAlike() {
        BlockMarker x = Samples.sums();
        for (int k = 0; k < 4; k++) {
            layOrder(x, k);
            CHECK.same("RIGHT ORDER " + k + ": alike()", x.alike(), NONE);
        }
        x.move(2, 0);
        CHECK.same("ADD ahead of both SETS: alike()", x.alike(), 0);
    }

    /** "an answer is marked by the fewest changes to the nearest right order" */
    private static void fewestChanges() {
        BlockMarker x = Samples.sums();
        // Next to RIGHT ORDER 3, not to RIGHT ORDER 0.
        Samples.layAll(x, 5, 1, 0, 2, 4, 3);
        CHECK.same("mark()", x.mark(), 1);
    }

    /** "a hint is the first of such changes" */
    private static void hintIsTheFirstChange() {
        BlockMarker x = Samples.sums();
        Samples.layAll(x, 6, 5, 7);
        int mark = x.mark();
        CHECK.same("DROP 6, SWAP 7, ADD four, MOVE 5: mark()", mark, 7);
        for (int left = mark - 1; left >= 0; left--) {
            CHECK.same("follow()", x.follow(), left);
        }
    }

    /** "LINES (16 at most, numbered as they come) have a KIND and numbers v, w" */
    private static void linesAreNumbered() {
        BlockMarker x = new BlockMarker();
        for (int l = 0; l < 16; l++) {
            CHECK.same("LINE " + l, l < 10 ? x.line(SET, l % 6, 100 + l) : x.decoy(COPY, l % 6, 5), l);
        }
        CHECK.same("a 17th", x.decoy(NOTE, 0, 0), FULL);
        CHECK.same("KIND", x.told(9, 0), SET);
        CHECK.same("v", x.told(9, 1), 3);
        CHECK.same("w", x.told(9, 2), 109);
        CHECK.same("KIND of another", x.told(10, 0), COPY);
    }

    /** "VARIABLES 0 to 5 are ints" */
    private static void variablesAreInts() {
        BlockMarker x = new BlockMarker();
        x.input(Integer.MIN_VALUE, -1, 0, 1, 2, Integer.MAX_VALUE);
        x.run(0, true);
        int[] want = {Integer.MIN_VALUE, -1, 0, 1, 2, Integer.MAX_VALUE};
        for (int v = 0; v < 6; v++) {
            CHECK.same("VARIABLE " + v, x.value(v), want[v]);
        }
        CHECK.same("there is no VARIABLE 6", x.line(PRINT, 6, 0), OUTSIDE);
    }

    // ---- terms: kinds

    /** One LINE by the INPUT 10 20 30 40 -50 0: v is as due, no other VARIABLE has changed, so many were printed. */
    private static void does(int kind, int v, int w, int due, int prints) {
        int[] input = {10, 20, 30, 40, -50, 0};
        BlockMarker x = new BlockMarker();
        x.line(kind, v, w);
        x.input(10, 20, 30, 40, -50, 0);
        String name = "KIND " + kind + " of " + v + " and " + w;
        CHECK.same(name + ": run()", x.run(0, true), prints);
        for (int other = 0; other < 6; other++) {
            CHECK.same(name + ": value(" + other + ")", x.value(other), other == v ? due : input[other]);
        }
    }

    private static void kinds() {
        set();
        copy();
        add();
        times();
        print();
        note();
        more();
        whichNumbers();
    }

    /** "0 SET: v becomes w." */
    private static void set() {
        does(SET, 2, 7, 7, 0);
        does(SET, 2, 1, 1, 0);
        does(SET, 5, -8, -8, 0);
    }

    /** "1 COPY: v becomes VARIABLE w." */
    private static void copy() {
        does(COPY, 2, 1, 20, 0);
        does(COPY, 0, 5, 0, 0);
        does(COPY, 3, 3, 40, 0);
    }

    /** "2 ADD: v becomes v and VARIABLE w (wrapping)." */
    private static void add() {
        does(ADD, 2, 1, 50, 0);
        does(ADD, 1, 4, -30, 0);
        does(ADD, 3, 3, 80, 0);
        CHECK.same("2147483647 and 1", wrapped(ADD, 1), Integer.MIN_VALUE);
    }

    private static int wrapped(int kind, int b) {
        BlockMarker x = new BlockMarker();
        x.line(kind, 0, 1);
        x.input(Integer.MAX_VALUE, b, 0, 0, 0, 0);
        x.run(0, true);
        return x.value(0);
    }

    /** "3 TIMES: v becomes v times VARIABLE w (wrapping)." */
    private static void times() {
        does(TIMES, 2, 1, 600, 0);
        does(TIMES, 1, 4, -1000, 0);
        does(TIMES, 3, 3, 1600, 0);
        does(TIMES, 0, 5, 0, 0);
        CHECK.same("2147483647 times 3", wrapped(TIMES, 3), Integer.MAX_VALUE - 2);
    }

    /** "4 PRINT: v is printed." */
    private static void print() {
        does(PRINT, 2, 0, 30, 1);
        BlockMarker x = new BlockMarker();
        x.line(PRINT, 4, 0);
        x.input(10, 20, 30, 40, -50, 0);
        x.run(0, true);
        CHECK.same("printed(0)", x.printed(0), -50);
    }

    /** "5 NOTE: nothing." */
    private static void note() {
        does(NOTE, 2, 1, 30, 0);
    }

    /** "6 MORE: v becomes v and 1, if VARIABLE w is above 0." */
    private static void more() {
        does(MORE, 2, 1, 31, 0);
        does(MORE, 2, 4, 30, 0);
        does(MORE, 2, 5, 30, 0);
        does(MORE, 3, 3, 41, 0);
        does(MORE, 4, 4, -50, 0);
    }

    /** "(v is 0 to 5; w is 0 to 5 but in SET; in PRINT, NOTE w is not looked at, in NOTE v neither.)" */
    private static void whichNumbers() {
        for (int kind = SET; kind <= MORE; kind++) {
            boolean anyV = kind == NOTE;
            boolean anyW = kind == SET || kind == PRINT || kind == NOTE;
            CHECK.same("KIND " + kind + " of 6 and 0", new BlockMarker().line(kind, 6, 0), anyV ? 0 : OUTSIDE);
            CHECK.same("KIND " + kind + " of 0 and 6", new BlockMarker().line(kind, 0, 6), anyW ? 0 : OUTSIDE);
            CHECK.same("KIND " + kind + " of 5 and 5", new BlockMarker().line(kind, 5, 5), 0);
        }
    }

    // ---- terms: needs, right orders

    private static void needsAndRightOrders() {
        readsAndWrites();
        roles();
        modelOrder();
        needsOfTwo();
        needsByChain();
        rightOrder();
    }

    /**
     * "A LINE READS: COPY w; ADD, TIMES v, w; PRINT v; MORE v, w. It WRITES: SET, COPY, ADD, TIMES, MORE v."
     *
     * A LINE that WRITES a VARIABLE and READS none is bound to each that READS or WRITES it; one that
     * READS it and WRITES another is bound to each that WRITES it.
     */
    private static void readsAndWrites() {
        int v = 2;
        int w = 3;
        for (int kind = SET; kind <= MORE; kind++) {
            boolean touchesV = kind != NOTE;
            boolean touchesW = kind == COPY || kind == ADD || kind == TIMES || kind == MORE;
            boolean writesV = kind != NOTE && kind != PRINT;
            for (int other = 0; other < 5; other++) {
                boolean touches = other == v && touchesV || other == w && touchesW;
                bound(kind, v, w, SET, other, touches);
                bound(kind, v, w, COPY, other, other == v && writesV);
            }
        }
    }

    /** A LINE with SET of another VARIABLE, or with COPY of it to 5: whichever comes first. */
    private static void bound(int kind, int v, int w, int otherKind, int other, boolean want) {
        int otherV = otherKind == SET ? other : 5;
        int otherW = otherKind == SET ? 77 : other;
        BlockMarker x = new BlockMarker();
        x.line(kind, v, w);
        x.line(otherKind, otherV, otherW);
        BlockMarker y = new BlockMarker();
        y.line(otherKind, otherV, otherW);
        y.line(kind, v, w);
        String name = "KIND " + kind + " and KIND " + otherKind + " of " + other;
        CHECK.same(name + ": needs(0, 1)", x.needs(0, 1), want ? 1 : 0);
        CHECK.same(name + ", turned: needs(0, 1)", y.needs(0, 1), want ? 1 : 0);
    }

    /** "ROLES: a LINE is of the MODEL, or a DECOY, or WRONG: then it has a PARTNER, a LINE of the MODEL (each has one WRONG LINE at most)." */
    private static void roles() {
        BlockMarker x = new BlockMarker();
        x.line(NOTE, 0, 0);
        x.decoy(NOTE, 0, 0);
        CHECK.same("wrong(0)", x.wrong(0, NOTE, 0, 0), 2);
        for (int l = 0; l < 3; l++) {
            CHECK.same("ROLE of " + l, x.told(l, 3), l);
        }
        CHECK.same("a second WRONG LINE", x.wrong(0, NOTE, 0, 0), STATE);
        CHECK.same("a PARTNER that is a DECOY", x.wrong(1, NOTE, 0, 0), STATE);
        CHECK.same("a PARTNER that is WRONG", x.wrong(2, NOTE, 0, 0), STATE);
    }

    /** "THE MODEL ORDER is that of their numbers." */
    private static void modelOrder() {
        BlockMarker x = new BlockMarker();
        x.decoy(SET, 0, 1);
        x.line(SET, 0, 2);
        x.wrong(1, SET, 0, 3);
        x.decoy(PRINT, 0, 0);
        x.line(PRINT, 0, 0);
        x.wrong(4, PRINT, 1, 0);
        x.line(TIMES, 0, 0);
        x.decoy(SET, 0, 9);
        x.line(PRINT, 0, 0);
        x.input(0, 0, 0, 0, 0, 0);
        CHECK.same("of the MODEL alone: run(0, true)", x.run(0, true), 2);
        CHECK.same("printed(0)", x.printed(0), 2);
        CHECK.same("printed(1)", x.printed(1), 4);
        CHECK.same("it is RIGHT ORDER 0: right(0, 0)", x.right(0, 0), 1);
        CHECK.same("right(0, 1)", x.right(0, 1), 4);
        CHECK.same("right(0, 2)", x.right(0, 2), 6);
        CHECK.same("right(0, 3)", x.right(0, 3), 8);
    }

    private static int needsOf(int kind, int v, int w, int otherKind, int otherV, int otherW) {
        BlockMarker x = new BlockMarker();
        x.line(kind, v, w);
        x.line(otherKind, otherV, otherW);
        CHECK.same("a's number is less", x.needs(1, 0), 0);
        return x.needs(0, 1);
    }

    /**
     * "a NEEDS TO BE AHEAD OF b (LINES of the MODEL): a's number is less, and one of: a WRITES what b READS; a READS what b
     * WRITES; both WRITE the same; both are PRINT"
     */
    private static void needsOfTwo() {
        CHECK.same("a WRITES what b READS", needsOf(SET, 1, 0, COPY, 0, 1), 1);
        CHECK.same("a READS what b WRITES", needsOf(COPY, 0, 1, SET, 1, 0), 1);
        CHECK.same("both WRITE the same", needsOf(SET, 1, 0, SET, 1, 2), 1);
        CHECK.same("both are PRINT", needsOf(PRINT, 0, 0, PRINT, 1, 0), 1);
        CHECK.same("both READ the same", needsOf(COPY, 0, 1, COPY, 2, 1), 0);
        CHECK.same("one is PRINT", needsOf(PRINT, 0, 0, SET, 1, 0), 0);
        CHECK.same("nothing in common", needsOf(ADD, 0, 1, TIMES, 2, 3), 0);
    }

    /** "or there is c, a NEEDS TO BE AHEAD OF c, c OF b." */
    private static void needsByChain() {
        BlockMarker x = new BlockMarker();
        x.line(SET, 0, 1);
        x.line(COPY, 1, 0);
        x.line(PRINT, 1, 0);
        x.line(PRINT, 5, 0);
        CHECK.same("by one between", x.needs(0, 2), 1);
        CHECK.same("by two between", x.needs(0, 3), 1);
        x.wipe();
        x.line(SET, 0, 1);
        x.decoy(COPY, 1, 0);
        x.line(PRINT, 1, 0);
        CHECK.same("by a DECOY between", x.needs(0, 2), 0);
    }

    /** "A RIGHT ORDER has each LINE of the MODEL once, no other, and each ahead of those that it NEEDS TO BE AHEAD OF." */
    private static void rightOrder() {
        BlockMarker x = Samples.sums();
        CHECK.same("orders()", x.orders(), 4);
        for (int k = 0; k < 4; k++) {
            for (int a = 0; a < 6; a++) {
                CHECK.isTrue("LINE " + a + " is once in order " + k, timesIn(x, k, a) == 1);
                for (int b = 0; b < 6; b++) {
                    CHECK.isTrue(a + " and " + b + " in order " + k, x.needs(a, b) == 0 || placeIn(x, k, a) < placeIn(x, k, b));
                }
            }
            CHECK.same("no LINE more in order " + k, x.right(k, 6), NONE);
            // An object is good for 512 calls.
            x = Samples.sums();
        }
    }

    private static int timesIn(BlockMarker x, long k, int l) {
        int sum = 0;
        for (int i = 0; i < 6; i++) {
            sum += x.right(k, i) == l ? 1 : 0;
        }
        return sum;
    }

    private static int placeIn(BlockMarker x, long k, int l) {
        int place = 0;
        while (place < 6 && x.right(k, place) != l) {
            place++;
        }
        return place;
    }

    // ---- terms: inputs, runs

    private static void inputsAndRuns() {
        inputsAreNumbered();
        runIsOneByOne();
        sixteenPrinted();
    }

    /** "INPUTS (8 at most, numbered): six ints, what VARIABLES are first." */
    private static void inputsAreNumbered() {
        BlockMarker x = new BlockMarker();
        for (int i = 0; i < 8; i++) {
            CHECK.same("INPUT " + i, x.input(i, 10 + i, 20 + i, 30 + i, 40 + i, 50 + i), i);
        }
        CHECK.same("a ninth", x.input(0, 0, 0, 0, 0, 0), FULL);
        for (int i = 0; i < 8; i++) {
            x.run(i, false);
            for (int v = 0; v < 6; v++) {
                CHECK.same("VARIABLE " + v + " by INPUT " + i, x.value(v), 10 * v + i);
            }
        }
    }

    /** "A RUN of a row of LINES by an INPUT: they are done one by one" */
    private static void runIsOneByOne() {
        BlockMarker x = new BlockMarker();
        x.line(ADD, 0, 1);
        x.line(TIMES, 0, 1);
        x.line(PRINT, 0, 0);
        x.decoy(SET, 0, 100);
        x.wrong(0, MORE, 0, 1);
        x.input(2, 3, 0, 0, 0, 0);
        x.run(0, true);
        CHECK.same("2 and 3, times 3", x.printed(0), 15);
        Samples.layAll(x, 1, 0, 2);
        x.run(0, false);
        CHECK.same("2 times 3, and 3", x.printed(0), 9);
        x.lay(4, 2);
        x.run(0, false);
        CHECK.same("the WRONG LINE is done as it is", x.printed(0), 10);
        x.lay(3, 0);
        x.run(0, false);
        CHECK.same("a DECOY is done as well", x.printed(0), 304);
        CHECK.same("value(0)", x.value(0), 304);
    }

    /** "what it PRINTED are the ints printed (16 at most)." */
    private static void sixteenPrinted() {
        BlockMarker x = new BlockMarker();
        for (int l = 0; l < 16; l++) {
            CHECK.same("LINE " + l, l < 12 ? x.line(PRINT, l % 6, 0) : x.decoy(PRINT, l % 6, 0), l);
        }
        x.input(1, 2, 3, 4, 5, 6);
        for (int l = 0; l < 16; l++) {
            x.lay(l, l);
        }
        CHECK.same("run(0, false)", x.run(0, false), 16);
        for (int k = 0; k < 16; k++) {
            CHECK.same("printed(" + k + ")", x.printed(k), 1 + k % 6);
        }
    }

    // ---- terms: the answer, marks

    private static void answersAndMarks() {
        noneTwice();
        runsAlike();
        changes();
        theMark();
        takenForItsPartner();
        asManyAsCanBe();
        ofSeveralChoices();
    }

    /** "THE ANSWER is a row of LINES, none twice." */
    private static void noneTwice() {
        BlockMarker x = Samples.sums();
        Samples.layAll(x, 4, 6, 7);
        CHECK.isTrue("THE ANSWER is 4 6 7", Samples.answerOf(x).equals("4 6 7"));
        CHECK.same("4 once more", x.lay(4, 3), STATE);
    }

    /** "It runs ALIKE, if it PRINTED what THE MODEL ORDER PRINTS, by each INPUT." */
    private static void runsAlike() {
        BlockMarker x = new BlockMarker();
        x.line(ADD, 0, 1);
        x.line(PRINT, 0, 0);
        x.decoy(TIMES, 0, 1);
        x.input(2, 2, 0, 0, 0, 0);
        Samples.layAll(x, 2, 1);
        CHECK.same("2 and 2 is 2 times 2", x.alike(), NONE);
        x.clear();
        x.input(0, 0, 0, 0, 0, 0);
        x.input(1, 1, 0, 0, 0, 0);
        Samples.layAll(x, 2, 1);
        CHECK.same("1 and 1 is not 1 times 1", x.alike(), 2);
        x.lay(0, 2);
        CHECK.same("what is done behind the last PRINT does not matter", x.alike(), 2);
        x.take(0);
        CHECK.same("PRINT ahead of ADD", x.alike(), 0);
        x.move(0, 1);
        CHECK.same("ADD ahead of PRINT", x.alike(), NONE);
    }

    private static BlockMarker laid(int... row) {
        BlockMarker x = Samples.sums();
        Samples.layAll(x, row);
        return x;
    }

    /**
     * "CHANGES: DROP: a LINE goes. ADD: one that is not there comes to some place. MOVE: one goes to another place. SWAP: a
     * WRONG LINE becomes its PARTNER (that is not there)."
     */
    private static void changes() {
        CHECK.same("one DROP", laid(0, 1, 2, 6, 3, 4, 5).mark(), 1);
        CHECK.same("one DROP of a WRONG LINE", laid(0, 1, 2, 7, 3, 4, 5).mark(), 1);
        CHECK.same("one ADD", laid(0, 1, 2, 4, 5).mark(), 1);
        CHECK.same("one MOVE", laid(0, 2, 3, 1, 4, 5).mark(), 1);
        CHECK.same("one SWAP", laid(0, 1, 7, 3, 4, 5).mark(), 1);
    }

    /** "THE MARK is how many CHANGES at least make of THE ANSWER some RIGHT ORDER." */
    private static void theMark() {
        CHECK.same("none", laid(1, 0, 2, 4, 3, 5).mark(), 0);
        CHECK.same("ADD six times", laid().mark(), 6);
        CHECK.same("DROP, then ADD six times", laid(6).mark(), 7);
        CHECK.same("SWAP, then ADD five times", laid(7).mark(), 6);
        CHECK.same("SWAP and MOVE", laid(7, 0, 1, 3, 4, 5).mark(), 2);
        CHECK.same("DROP and MOVE, not DROP, DROP and ADD", laid(2, 0, 1, 7, 3, 4, 5).mark(), 2);
        CHECK.same("DROP, SWAP, ADD and MOVE", laid(5, 0, 6, 7, 3, 4).mark(), 4);
    }

    private static void keptAre(String want, BlockMarker x) {
        StringBuilder got = new StringBuilder();
        for (int place = 0; place < x.size(); place++) {
            got.append(x.kept(place));
        }
        CHECK.isTrue("KEPT of " + Samples.answerOf(x) + " is " + want + " (it is " + got + ")", want.contentEquals(got));
    }

    /**
     * "THE KEPT LINES: of THE ANSWER, each WRONG LINE whose PARTNER is not there taken for its PARTNER, DECOYS and other WRONG
     * ones left out"
     */
    private static void takenForItsPartner() {
        keptAre("111111", laid(0, 1, 7, 3, 4, 5));
        keptAre("1110111", laid(0, 1, 2, 7, 3, 4, 5));
        keptAre("1101111", laid(0, 1, 6, 7, 3, 4, 5));
        keptAre("011111", laid(7, 0, 1, 3, 4, 5));
    }

    /** "a choice of as many as can be so that none stands behind one that it NEEDS TO BE AHEAD OF" */
    private static void asManyAsCanBe() {
        keptAre("011111", laid(5, 0, 1, 2, 3, 4));
        keptAre("111111", laid(1, 0, 2, 4, 3, 5));
        keptAre("110", laid(3, 4, 2));
        // 4 and 3 are free of each other, 2 and 0 need to be ahead of both.
        keptAre("1100", laid(4, 3, 2, 0));
    }

    /** "of several choices the one that has the first LINE, if some has, then the second, and so on." */
    private static void ofSeveralChoices() {
        keptAre("10", laid(2, 0));
        keptAre("1100", laid(2, 3, 0, 1));
        keptAre("1010", laid(2, 0, 5, 3));
    }

    // ---- terms: hints

    private static void hints() {
        dropFirst();
        thenSwap();
        thenAdd();
        thenMove();
        toThePlace();
        noHint();
    }

    private static void hinted(BlockMarker x, int change, int l, int place) {
        String row = " of " + Samples.answerOf(x);
        CHECK.same("hint(0)" + row, x.hint(0), change);
        CHECK.same("hint(1)" + row, x.hint(1), l);
        CHECK.same("hint(2)" + row, x.hint(2), place);
    }

    /** "THE HINT: the first of these that there is: DROP of the first LINE (by its place) that is a DECOY, or WRONG with its PARTNER there." */
    private static void dropFirst() {
        hinted(laid(5, 7, 0, 6, 2), DROPPED, 7, 1);
        hinted(laid(5, 6, 0, 7, 2), DROPPED, 6, 1);
        hinted(laid(5, 7, 0, 6), DROPPED, 6, 3);
    }

    /** "SWAP of the first WRONG LINE." */
    private static void thenSwap() {
        hinted(laid(5, 0, 7), SWAPPED, 7, 2);
        BlockMarker x = Samples.sums();
        x.wrong(5, NOTE, 0, 0);
        Samples.layAll(x, 3, 8, 7);
        hinted(x, SWAPPED, 8, 1);
    }

    /** "ADD of the least LINE of the MODEL that is not there." */
    private static void thenAdd() {
        hinted(laid(5, 0, 1, 4), ADDED, 2, 3);
        hinted(laid(1, 2, 4), ADDED, 0, 0);
    }

    /** "MOVE of the first LINE that is not KEPT." */
    private static void thenMove() {
        hinted(laid(5, 0, 1, 2, 3, 4), MOVED, 5, 5);
        // 1 and 0 are KEPT, so 2 is not; of 5 and 4 the first is, but 2 stands ahead of 4.
        hinted(laid(2, 1, 0, 3, 5, 4), MOVED, 2, 2);
    }

    /**
     * "ADD, MOVE: to the place just behind the last KEPT LINE that NEEDS TO BE AHEAD OF it, place 0 if none (places of MOVE: when
     * it was taken out)."
     */
    private static void toThePlace() {
        hinted(laid(0, 1, 3, 4, 5), ADDED, 2, 2);
        hinted(laid(0, 1, 2, 3, 5), ADDED, 4, 3);
        hinted(laid(0, 2, 3, 4, 5), ADDED, 1, 0);
        // 4 and 3 are KEPT, 2 is not: it is not looked at, though 5 needs it.
        hinted(laid(4, 3, 2, 0, 1), ADDED, 5, 2);
        hinted(laid(0, 3, 1, 2, 4, 5), MOVED, 3, 3);
        hinted(laid(0, 2, 3, 4, 5, 1), MOVED, 1, 0);
    }

    /** "There is none, if THE MARK is 0." */
    private static void noHint() {
        hinted(laid(0, 1, 2, 3, 4, 5), NONE, NONE, NONE);
        hinted(new BlockMarker(), NONE, NONE, NONE);
    }

    // ---- terms: refusals

    private static void refusals() {
        firstAsTold();
        changeNothing();
        whileTheAnswerIsEmpty();
    }

    /** "Refusals, of several the first as told by each call: UNKNOWN (a number names nothing), OUTSIDE (it is not as told), STATE (as told), FULL" */
    private static void firstAsTold() {
        BlockMarker x = Samples.mixed(12, 2, 2);
        x.lay(0, 0);
        CHECK.same("UNKNOWN ahead of OUTSIDE, STATE, FULL", x.wrong(16, 7, 0, 0), UNKNOWN);
        CHECK.same("OUTSIDE ahead of STATE, FULL", x.wrong(0, 7, 0, 0), OUTSIDE);
        CHECK.same("STATE ahead of FULL", x.wrong(2, NOTE, 0, 0), STATE);
        x.clear();
        CHECK.same("FULL", x.wrong(2, NOTE, 0, 0), FULL);
    }

    /** "they change nothing." */
    private static void changeNothing() {
        CHECK.leaves(() -> laid(3, 7), "lay(8, 0)", x -> x.lay(8, 0), UNKNOWN);
        CHECK.leaves(() -> laid(3, 7), "move(0, 2)", x -> x.move(0, 2), OUTSIDE);
        CHECK.leaves(() -> laid(3, 7), "line(5, 0, 0)", x -> x.line(NOTE, 0, 0), STATE);
        CHECK.leaves(() -> Samples.mixed(12, 2, 2), "decoy(5, 0, 0)", x -> x.decoy(NOTE, 0, 0), FULL);
    }

    /** "---- lines, inputs: while THE ANSWER is empty." */
    private static void whileTheAnswerIsEmpty() {
        BlockMarker x = laid(6);
        CHECK.same("line()", x.line(NOTE, 0, 0), STATE);
        CHECK.same("decoy()", x.decoy(NOTE, 0, 0), STATE);
        CHECK.same("wrong()", x.wrong(0, NOTE, 0, 0), STATE);
        CHECK.same("input()", x.input(0, 0, 0, 0, 0, 0), STATE);
        x.take(0);
        CHECK.same("line(), when it is empty", x.line(NOTE, 0, 0), 8);
        CHECK.same("decoy(), when it is empty", x.decoy(NOTE, 0, 0), 9);
        CHECK.same("wrong(), when it is empty", x.wrong(0, NOTE, 0, 0), 10);
        CHECK.same("input(), when it is empty", x.input(0, 0, 0, 0, 0, 0), 2);
    }

    // ---- promises 1 to 7

    private static void promisesOfLines() {
        newObject();
        line();
        decoy();
        wrong();
        input();
        wipe();
        told();
    }

    /** 1: "No LINES, INPUTS; THE ANSWER is empty." */
    private static void newObject() {
        BlockMarker x = new BlockMarker();
        CHECK.same("LINES", x.count(0), 0);
        CHECK.same("INPUTS", x.count(4), 0);
        CHECK.same("THE ANSWER", x.size(), 0);
    }

    /** 2: "A LINE of the MODEL: its number. OUTSIDE: KIND, v, w; STATE; FULL: 16 LINES, 12 of the MODEL." */
    private static void line() {
        BlockMarker x = new BlockMarker();
        CHECK.same("line(4, 3, 0)", x.line(PRINT, 3, 0), 0);
        CHECK.same("line(2, 3, 4)", x.line(ADD, 3, 4), 1);
        CHECK.same("of the MODEL", x.told(1, 3), 0);
        CHECK.same("KIND", x.line(-1, 0, 0), OUTSIDE);
        CHECK.same("v", x.line(ADD, -1, 0), OUTSIDE);
        CHECK.same("w", x.line(ADD, 0, -1), OUTSIDE);
        x.lay(1, 0);
        CHECK.same("THE ANSWER is not empty", x.line(ADD, 0, 0), STATE);
        CHECK.same("16 LINES", Samples.mixed(11, 3, 2).line(ADD, 0, 0), FULL);
        CHECK.same("12 of the MODEL", Samples.mixed(12, 0, 0).line(ADD, 0, 0), FULL);
        CHECK.same("15 LINES, 11 of the MODEL", Samples.mixed(11, 2, 2).line(ADD, 0, 0), 15);
    }

    /** 3: "A DECOY: its number. OUTSIDE; STATE; FULL." */
    private static void decoy() {
        BlockMarker x = Samples.notes(2);
        CHECK.same("decoy(6, 1, 2)", x.decoy(MORE, 1, 2), 2);
        CHECK.same("a DECOY", x.told(2, 3), 1);
        CHECK.same("its KIND", x.told(2, 0), MORE);
        CHECK.same("OUTSIDE", x.decoy(MORE, 1, 6), OUTSIDE);
        x.lay(2, 0);
        CHECK.same("STATE", x.decoy(MORE, 1, 2), STATE);
        CHECK.same("12 of the MODEL leave room", Samples.notes(12).decoy(MORE, 1, 2), 12);
        CHECK.same("16 LINES", Samples.mixed(12, 2, 2).decoy(MORE, 1, 2), FULL);
    }

    /**
     * 4: "A WRONG LINE with a PARTNER: its number. UNKNOWN: p is no LINE; OUTSIDE: KIND, v, w; STATE (also: p is not of the MODEL,
     * or has one already); FULL."
     */
    private static void wrong() {
        BlockMarker x = Samples.notes(3);
        x.decoy(NOTE, 0, 0);
        CHECK.same("wrong(1, 3, 4, 5)", x.wrong(1, TIMES, 4, 5), 4);
        CHECK.same("WRONG", x.told(4, 3), 2);
        CHECK.same("its PARTNER", x.told(4, 4), 1);
        CHECK.same("p is no LINE", x.wrong(5, TIMES, 4, 5), UNKNOWN);
        CHECK.same("KIND", x.wrong(0, 7, 4, 5), OUTSIDE);
        CHECK.same("v", x.wrong(0, TIMES, 6, 5), OUTSIDE);
        CHECK.same("w", x.wrong(0, TIMES, 4, 6), OUTSIDE);
        CHECK.same("p is a DECOY", x.wrong(3, TIMES, 4, 5), STATE);
        CHECK.same("p is WRONG", x.wrong(4, TIMES, 4, 5), STATE);
        CHECK.same("p has one already", x.wrong(1, TIMES, 4, 5), STATE);
        x.lay(0, 0);
        CHECK.same("THE ANSWER is not empty", x.wrong(0, TIMES, 4, 5), STATE);
        CHECK.same("16 LINES", Samples.mixed(12, 2, 2).wrong(2, TIMES, 4, 5), FULL);
    }

    /** 5: "An INPUT: its number. STATE; FULL." */
    private static void input() {
        BlockMarker x = Samples.sums();
        CHECK.same("input()", x.input(1, 2, 3, 4, 5, 6), 2);
        CHECK.same("count(4)", x.count(4), 3);
        x.lay(0, 0);
        CHECK.same("STATE", x.input(1, 2, 3, 4, 5, 6), STATE);
        x.clear();
        for (int i = 3; i < 8; i++) {
            CHECK.same("input()", x.input(i, i, i, i, i, i), i);
        }
        CHECK.same("FULL", x.input(1, 2, 3, 4, 5, 6), FULL);
    }

    /** 6: "All LINES, INPUTS, the latest run() go, THE ANSWER is empty: how many LINES there were." */
    private static void wipe() {
        BlockMarker x = laid(3, 4);
        x.run(1, true);
        CHECK.same("wipe()", x.wipe(), 8);
        CHECK.same("LINES", x.count(0), 0);
        CHECK.same("INPUTS", x.count(4), 0);
        CHECK.same("what was printed", x.printed(0), 0);
        CHECK.same("what VARIABLES were", x.value(0), 0);
        CHECK.same("THE ANSWER", x.size(), 0);
        CHECK.same("a LINE comes as the first", x.line(NOTE, 0, 0), 0);
    }

    /**
     * 7: "Of a LINE: what = 0 KIND, 1 v, 2 w, 3 ROLE (0 of the MODEL, 1 DECOY, 2 WRONG), 4 its PARTNER, or the WRONG LINE whose
     * PARTNER it is (NONE). UNKNOWN; OUTSIDE."
     */
    private static void told() {
        BlockMarker x = new BlockMarker();
        x.line(COPY, 2, 3);
        x.decoy(SET, 4, -70);
        x.wrong(0, PRINT, 5, 80);
        x.line(NOTE, 90, -90);
        int[][] want = {{COPY, 2, 3, 0, 2}, {SET, 4, -70, 1, NONE}, {PRINT, 5, 80, 2, 0}, {NOTE, 90, -90, 0, NONE}};
        for (int l = 0; l < 4; l++) {
            for (int what = 0; what <= 4; what++) {
                CHECK.same("told(" + l + ", " + what + ")", x.told(l, what), want[l][what]);
            }
        }
        CHECK.same("told(4, 0)", x.told(4, 0), UNKNOWN);
        CHECK.same("told(0, 5)", x.told(0, 5), OUTSIDE);
    }

    // ---- promises 8 to 11

    private static void promisesOfOrders() {
        needs();
        orders();
        right();
        which();
    }

    /** 8: "Whether a NEEDS TO BE AHEAD OF b: 1, 0 (0 also, if one is not of the MODEL). UNKNOWN." */
    private static void needs() {
        BlockMarker x = Samples.sums();
        CHECK.same("needs(0, 2)", x.needs(0, 2), 1);
        CHECK.same("needs(2, 0)", x.needs(2, 0), 0);
        CHECK.same("needs(0, 1)", x.needs(0, 1), 0);
        CHECK.same("needs(0, 6): both WRITE 0, but 6 is a DECOY", x.needs(0, 6), 0);
        CHECK.same("needs(1, 7): both WRITE 1, but 7 is WRONG", x.needs(1, 7), 0);
        CHECK.same("needs(0, 8)", x.needs(0, 8), UNKNOWN);
        CHECK.same("needs(8, 0)", x.needs(8, 0), UNKNOWN);
    }

    /** 9: "How many RIGHT ORDERS there are." */
    private static void orders() {
        CHECK.same("of SUMS", Samples.sums().orders(), 4);
        CHECK.same("of 5 NOTES", Samples.notes(5).orders(), 120);
        CHECK.same("of 5 PRINTS", Samples.prints(5).orders(), 1);
        CHECK.same("of nothing", new BlockMarker().orders(), 1);
    }

    /** 10: "The i-th LINE of RIGHT ORDER k (from 0; by the numbers of their LINES, place by place, the least first); NONE: there is none." */
    private static void right() {
        int[][] want = {{0, 1, 2}, {0, 2, 1}, {1, 0, 2}, {1, 2, 0}, {2, 0, 1}, {2, 1, 0}};
        BlockMarker x = Samples.notes(3);
        for (int k = 0; k < 6; k++) {
            for (int i = 0; i < 3; i++) {
                CHECK.same("right(" + k + ", " + i + ")", x.right(k, i), want[k][i]);
            }
        }
        CHECK.same("right(6, 0)", x.right(6, 0), NONE);
        CHECK.same("right(0, 3)", x.right(0, 3), NONE);
    }

    /** 11: "Which RIGHT ORDER THE ANSWER is; NONE." */
    private static void which() {
        CHECK.same("0 1 2 3 4 5", laid(0, 1, 2, 3, 4, 5).which(), 0);
        CHECK.same("0 1 2 4 3 5", laid(0, 1, 2, 4, 3, 5).which(), 1);
        CHECK.same("1 0 2 3 4 5", laid(1, 0, 2, 3, 4, 5).which(), 2);
        CHECK.same("1 0 2 4 3 5", laid(1, 0, 2, 4, 3, 5).which(), 3);
        CHECK.same("0 2 1 3 4 5", laid(0, 2, 1, 3, 4, 5).which(), NONE);
    }

    // ---- promises 12 to 17

    private static void promisesOfTheAnswer() {
        lay();
        take();
        move();
        clear();
        atAndSize();
    }

    private static void row(String want, BlockMarker x) {
        String got = Samples.answerOf(x);
        CHECK.isTrue("THE ANSWER is " + want + " (it is " + got + ")", got.equals(want));
    }

    /** 12: "A LINE comes to a place of THE ANSWER (0: ahead of all): how many there are. UNKNOWN; OUTSIDE: place; STATE: it is there." */
    private static void lay() {
        BlockMarker x = laid(3, 4);
        CHECK.same("lay(5, 1)", x.lay(5, 1), 3);
        row("3 5 4", x);
        CHECK.same("lay(0, 0)", x.lay(0, 0), 4);
        row("0 3 5 4", x);
        CHECK.same("lay(7, 4)", x.lay(7, 4), 5);
        row("0 3 5 4 7", x);
        CHECK.same("lay(8, 0)", x.lay(8, 0), UNKNOWN);
        CHECK.same("lay(1, 6)", x.lay(1, 6), OUTSIDE);
        CHECK.same("lay(5, 0)", x.lay(5, 0), STATE);
    }

    /** 13: "The LINE at a place goes: the LINE. OUTSIDE." */
    private static void take() {
        BlockMarker x = laid(3, 4, 5);
        CHECK.same("take(1)", x.take(1), 4);
        row("3 5", x);
        CHECK.same("take(2)", x.take(2), OUTSIDE);
    }

    /** 14: "The LINE at a place goes to another one, as it is when that was taken out: the LINE. OUTSIDE: place, to." */
    private static void move() {
        BlockMarker x = laid(3, 4, 5, 6);
        CHECK.same("move(0, 2)", x.move(0, 2), 3);
        row("4 5 3 6", x);
        CHECK.same("move(3, 1)", x.move(3, 1), 6);
        row("4 6 5 3", x);
        CHECK.same("move(4, 0)", x.move(4, 0), OUTSIDE);
        CHECK.same("move(0, 4)", x.move(0, 4), OUTSIDE);
    }

    /** 15: "THE ANSWER is empty: how many LINES it had." */
    private static void clear() {
        BlockMarker x = laid(3, 4, 5);
        CHECK.same("clear()", x.clear(), 3);
        row("", x);
        CHECK.same("the LINES are there", x.lay(3, 0), 1);
    }

    /** 16, 17: "The LINE at a place; NONE."; "How many LINES THE ANSWER has." */
    private static void atAndSize() {
        BlockMarker x = laid(3, 7, 5);
        CHECK.same("at(0)", x.at(0), 3);
        CHECK.same("at(1)", x.at(1), 7);
        CHECK.same("at(2)", x.at(2), 5);
        CHECK.same("at(3)", x.at(3), NONE);
        CHECK.same("size()", x.size(), 3);
    }

    // ---- promises 18 to 21

    private static void promisesOfRuns() {
        run();
        printed();
        value();
        alike();
    }

    /** 18: "A RUN by an INPUT: of THE ANSWER (model false), of THE MODEL ORDER: how many ints it PRINTED. UNKNOWN." */
    private static void run() {
        BlockMarker x = laid(3, 0, 4);
        CHECK.same("run(1, false)", x.run(1, false), 1);
        CHECK.same("printed(0)", x.printed(0), 1);
        CHECK.same("run(1, true)", x.run(1, true), 2);
        CHECK.same("printed(0)", x.printed(0), 12);
        CHECK.same("run(2, true)", x.run(2, true), UNKNOWN);
    }

    /** 19: "The k-th int of the latest run(); 0 also: there is none." */
    private static void printed() {
        BlockMarker x = laid(3);
        CHECK.same("no run() yet", x.printed(0), 0);
        x.run(1, true);
        CHECK.same("printed(0)", x.printed(0), 12);
        CHECK.same("printed(1)", x.printed(1), 84);
        CHECK.same("printed(2)", x.printed(2), 0);
        x.run(1, false);
        CHECK.same("the latest: printed(0)", x.printed(0), 1);
        CHECK.same("the latest: printed(1)", x.printed(1), 0);
    }

    /** 20: "What a VARIABLE is behind the latest run(); 0 also: no such one, no run() yet." */
    private static void value() {
        BlockMarker x = laid(0);
        CHECK.same("no run() yet", x.value(1), 0);
        x.run(1, true);
        CHECK.same("value(0)", x.value(0), 12);
        CHECK.same("value(1)", x.value(1), 84);
        CHECK.same("value(5)", x.value(5), 6);
        CHECK.same("value(6)", x.value(6), 0);
        x.run(1, false);
        CHECK.same("the latest: value(0)", x.value(0), 5);
        CHECK.same("the latest: value(1)", x.value(1), 2);
    }

    /** 21: "Whether THE ANSWER runs ALIKE: NONE (yes); the least INPUT by which it does not." */
    private static void alike() {
        BlockMarker x = new BlockMarker();
        x.line(MORE, 0, 1);
        x.line(PRINT, 0, 0);
        x.input(3, -4, 0, 0, 0, 0);
        x.input(3, 4, 0, 0, 0, 0);
        x.input(3, 0, 0, 0, 0, 0);
        x.input(3, 1, 0, 0, 0, 0);
        Samples.layAll(x, 1, 0);
        CHECK.same("MORE comes too late where it does something", x.alike(), 1);
        x.move(0, 1);
        CHECK.same("as the MODEL", x.alike(), NONE);
    }

    // ---- promises 22 to 25

    private static void promisesOfMarks() {
        markAndKept();
        hint();
        follow();
    }

    /** 22, 23: "THE MARK."; "Whether the LINE at a place is KEPT (or taken for one that is): 1, 0. OUTSIDE." */
    private static void markAndKept() {
        BlockMarker x = laid(5, 7, 6, 0, 3);
        CHECK.same("mark()", x.mark(), 6);
        keptAre("01001", x);
        CHECK.same("kept(5)", x.kept(5), OUTSIDE);
    }

    /**
     * 24: "THE HINT: what = 0 the CHANGE (0 DROP, 1 ADD, 2 MOVE, 3 SWAP; NONE: there is none), 1 the LINE that goes, comes, or
     * moves (SWAP: the WRONG one), 2 its place (ADD, MOVE: to which). NONE also of 1, 2 then. OUTSIDE."
     */
    private static void hint() {
        hinted(laid(0, 1, 6), 0, 6, 2);
        hinted(laid(0, 1, 3), 1, 2, 2);
        hinted(laid(5, 0, 1, 2, 3, 4), 2, 5, 5);
        hinted(laid(0, 7, 1), 3, 7, 1);
        hinted(laid(0, 1, 2, 3, 4, 5), NONE, NONE, NONE);
        CHECK.same("hint(3)", laid(0).hint(3), OUTSIDE);
        CHECK.same("hint(3), where there is none", laid(0, 1, 2, 3, 4, 5).hint(3), OUTSIDE);
    }

    /** 25: "THE HINT is done: THE MARK then; NONE: there is none." */
    private static void follow() {
        BlockMarker x = laid(5, 0, 1, 7, 6, 3);
        String[] rows = {"5 0 1 7 3", "5 0 1 2 3", "5 0 1 2 4 3", "0 1 2 4 3 5"};
        for (int i = 0; i < rows.length; i++) {
            CHECK.same("follow()", x.follow(), 3 - i);
            row(rows[i], x);
        }
        CHECK.same("follow(), when there is none", x.follow(), NONE);
        row("0 1 2 4 3 5", x);
    }

    // ---- promises 26 and 27

    private static void promisesOfWhatIsTold() {
        count();
        digest();
    }

    /**
     * 26: "How many: 0 LINES, 1 of the MODEL, 2 DECOYS, 3 WRONG ones, 4 INPUTS, 5 pairs of which the one NEEDS TO BE AHEAD OF the
     * other, 6 HINTS done ever. OUTSIDE."
     */
    private static void count() {
        BlockMarker x = Samples.sums();
        x.decoy(PRINT, 0, 0);
        x.decoy(PRINT, 0, 0);
        x.input(0, 0, 0, 0, 0, 0);
        x.follow();
        x.follow();
        x.clear();
        x.follow();
        int[] want = {10, 6, 3, 1, 3, 13, 3};
        for (int what = 0; what <= 6; what++) {
            CHECK.same("count(" + what + ")", x.count(what), want[what]);
        }
        CHECK.same("count(7)", x.count(7), OUTSIDE);
    }

    /**
     * 27: "h is 101, then for each of these numbers, in order, 31 times h, and it (as longs, wrapping): of each LINE what told()
     * tells for 0 to 4; of each INPUT its ints; THE ANSWER's LINES; HINTS done."
     */
    private static void digest() {
        BlockMarker x = new BlockMarker();
        x.line(SET, 1, -2);
        x.wrong(0, COPY, 3, 4);
        x.decoy(PRINT, 5, 6);
        x.input(7, -8, 9, 10, 11, 12);
        x.input(13, 14, 15, 16, 17, 18);
        x.lay(2, 0);
        x.lay(1, 0);
        x.lay(0, 1);
        x.follow();
        row("0 2", x);
        long h = 101;
        long[] numbers = {SET, 1, -2, 0, 1, COPY, 3, 4, 2, 0, PRINT, 5, 6, 1, NONE, 7, -8, 9, 10, 11, 12, 13, 14, 15, 16, 17, 18,
            0, 2, 1};
        for (long n : numbers) {
            h = 31 * h + n;
        }
        CHECK.same("digest()", x.digest(), h);
    }
}
