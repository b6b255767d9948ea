import java.util.function.Supplier;
import java.util.function.ToLongFunction;

/** The boundary cases of promises 12 to 17, each under the document's sentence that names it. */
public final class AnswerBoundsTest {
    private static final int MIN = Integer.MIN_VALUE, MAX = Integer.MAX_VALUE;
    private static final int NONE = BlockMarker.NONE, UNKNOWN = BlockMarker.UNKNOWN;
    private static final int OUTSIDE = BlockMarker.OUTSIDE, STATE = BlockMarker.STATE;
    private static final Check CHECK = new Check("AnswerBoundsTest");

    public static void main(String[] args) {
        layOfUnknownLines();
        layAtWhichPlace();
        layOfWhatIsThere();
        refusalsOfLayInOrder();
        laySixteen();
        takeFromWhichPlace();
        takeTheLast();
        moveFromWhichPlace();
        moveToWhichPlace();
        moveOfOneLine();
        moveToItsOwnPlace();
        moveBetweenTheEnds();
        clearOfNothing();
        clearOfAll();
        atWhichPlace();
        sizeAtTheEnds();
        CHECK.end();
    }

    /** 16 LINES, 12 of them of the MODEL; THE ANSWER has those from 0 on, so many, in order. */
    private static Supplier<BlockMarker> laid(int many) {
        return () -> {
            BlockMarker x = Samples.mixed(12, 2, 2);
            for (int l = 0; l < many; l++) {
                x.lay(l, l);
            }
            return x;
        };
    }

    private static void becomes(Supplier<BlockMarker> making, String call, ToLongFunction<BlockMarker> action, long want, String row) {
        BlockMarker x = making.get();
        CHECK.same(call, action.applyAsLong(x), want);
        String got = Samples.answerOf(x);
        CHECK.isTrue("behind " + call + " THE ANSWER is " + row + " (it is " + got + ")", got.equals(row));
    }

    /** lay: "UNKNOWN" */
    private static void layOfUnknownLines() {
        for (int l : new int[] {MIN, -1, 16, 17, MAX}) {
            CHECK.leaves(laid(0), "lay(" + l + ", 0)", x -> x.lay(l, 0), UNKNOWN);
            CHECK.leaves(laid(3), "lay(" + l + ", 3)", x -> x.lay(l, 3), UNKNOWN);
        }
        CHECK.leaves(() -> Samples.notes(2), "lay(2, 0) of two LINES", x -> x.lay(2, 0), UNKNOWN);
        becomes(laid(0), "lay(0, 0), the first LINE", x -> x.lay(0, 0), 1, "0");
        becomes(laid(0), "lay(15, 0), the last LINE", x -> x.lay(15, 0), 1, "15");
    }

    /** lay: "(0: ahead of all)"; "OUTSIDE: place" */
    private static void layAtWhichPlace() {
        for (int many : new int[] {0, 1, 3, 15}) {
            for (int place : new int[] {MIN, -1, many + 1, MAX}) {
                CHECK.leaves(laid(many), "lay(15, " + place + ") to " + many, x -> x.lay(15, place), OUTSIDE);
            }
        }
        becomes(laid(0), "lay(15, 0) to none", x -> x.lay(15, 0), 1, "15");
        becomes(laid(3), "lay(15, 0): ahead of all", x -> x.lay(15, 0), 4, "15 0 1 2");
        becomes(laid(3), "lay(15, 2)", x -> x.lay(15, 2), 4, "0 1 15 2");
        becomes(laid(3), "lay(15, 3): behind all", x -> x.lay(15, 3), 4, "0 1 2 15");
    }

    /** "a row of LINES, none twice"; lay: "STATE: it is there." */
    private static void layOfWhatIsThere() {
        for (int place = 0; place <= 3; place++) {
            int to = place;
            CHECK.leaves(laid(3), "lay(0, " + place + "): the first is there", x -> x.lay(0, to), STATE);
            CHECK.leaves(laid(3), "lay(2, " + place + "): the last is there", x -> x.lay(2, to), STATE);
        }
        BlockMarker x = laid(3).get();
        x.take(1);
        CHECK.same("what was taken may come again", x.lay(1, 0), 3);
        CHECK.same("but once", x.lay(1, 0), STATE);
        x.clear();
        CHECK.same("what was cleared may come again", x.lay(1, 0), 1);
        BlockMarker pair = laid(0).get();
        CHECK.same("a LINE and", pair.lay(0, 0), 1);
        CHECK.same("its WRONG LINE are two", pair.lay(12, 0), 2);
    }

    /** lay: "UNKNOWN; OUTSIDE: place; STATE: it is there." */
    private static void refusalsOfLayInOrder() {
        CHECK.leaves(laid(3), "UNKNOWN ahead of OUTSIDE", x -> x.lay(16, 4), UNKNOWN);
        CHECK.leaves(laid(3), "UNKNOWN ahead of OUTSIDE", x -> x.lay(-1, -1), UNKNOWN);
        CHECK.leaves(laid(3), "OUTSIDE ahead of STATE", x -> x.lay(2, 4), OUTSIDE);
        CHECK.leaves(laid(3), "OUTSIDE ahead of STATE", x -> x.lay(2, -1), OUTSIDE);
        CHECK.leaves(laid(3), "OUTSIDE alone", x -> x.lay(3, 4), OUTSIDE);
        CHECK.leaves(laid(3), "STATE alone", x -> x.lay(2, 3), STATE);
        CHECK.leaves(laid(16), "all are there: OUTSIDE ahead of STATE", x -> x.lay(0, 17), OUTSIDE);
        CHECK.leaves(laid(16), "all are there: STATE", x -> x.lay(0, 16), STATE);
        CHECK.leaves(laid(16), "all are there: UNKNOWN", x -> x.lay(16, 16), UNKNOWN);
    }

    /** lay: "how many there are": up to all 16 LINES, at either end. */
    private static void laySixteen() {
        String upwards = "0 1 2 3 4 5 6 7 8 9 10 11 12 13 14 15";
        becomes(laid(15), "the 16th behind all", x -> x.lay(15, 15), 16, upwards);
        becomes(laid(15), "the 16th ahead of all", x -> x.lay(15, 0), 16, "15 0 1 2 3 4 5 6 7 8 9 10 11 12 13 14");
        becomes(laid(15), "the 16th within", x -> x.lay(15, 14), 16, "0 1 2 3 4 5 6 7 8 9 10 11 12 13 15 14");
    }

    /** take: "OUTSIDE." */
    private static void takeFromWhichPlace() {
        for (int many : new int[] {0, 1, 3, 16}) {
            for (int place : new int[] {MIN, -1, many, MAX}) {
                CHECK.leaves(laid(many), "take(" + place + ") of " + many, x -> x.take(place), OUTSIDE);
            }
        }
        becomes(laid(3), "take(0)", x -> x.take(0), 0, "1 2");
        becomes(laid(3), "take(2), the last", x -> x.take(2), 2, "0 1");
    }

    /** take: "The LINE at a place goes: the LINE": of 16, and the only one. */
    private static void takeTheLast() {
        becomes(laid(16), "take(15) of 16", x -> x.take(15), 15, "0 1 2 3 4 5 6 7 8 9 10 11 12 13 14");
        becomes(laid(16), "take(0) of 16", x -> x.take(0), 0, "1 2 3 4 5 6 7 8 9 10 11 12 13 14 15");
        becomes(laid(1), "take(0) of 1", x -> x.take(0), 0, "");
        BlockMarker x = laid(1).get();
        x.take(0);
        CHECK.same("take(0) again", x.take(0), OUTSIDE);
    }

    /** move: "OUTSIDE: place" */
    private static void moveFromWhichPlace() {
        for (int many : new int[] {0, 1, 3, 16}) {
            for (int place : new int[] {MIN, -1, many, MAX}) {
                CHECK.leaves(laid(many), "move(" + place + ", 0) of " + many, x -> x.move(place, 0), OUTSIDE);
            }
        }
    }

    /** move: "to another one, as it is when that was taken out"; "OUTSIDE: .. to" */
    private static void moveToWhichPlace() {
        for (int many : new int[] {1, 3, 16}) {
            for (int to : new int[] {MIN, -1, many, many + 1, MAX}) {
                CHECK.leaves(laid(many), "move(0, " + to + ") of " + many, x -> x.move(0, to), OUTSIDE);
                CHECK.leaves(laid(many), "move(last, " + to + ") of " + many, x -> x.move(many - 1, to), OUTSIDE);
            }
        }
        CHECK.leaves(laid(3), "neither is there", x -> x.move(3, 3), OUTSIDE);
    }

    /** move: of the only LINE */
    private static void moveOfOneLine() {
        CHECK.leaves(laid(1), "move(0, 0) of 1", x -> x.move(0, 0), 0);
        CHECK.leaves(laid(1), "move(0, 1) of 1", x -> x.move(0, 1), OUTSIDE);
    }

    /** move: to the place that it had, when it was taken out; the document does not refuse that. */
    private static void moveToItsOwnPlace() {
        for (int place = 0; place < 3; place++) {
            int same = place;
            CHECK.leaves(laid(3), "move(" + place + ", " + place + ")", x -> x.move(same, same), place);
        }
    }

    /** move: "as it is when that was taken out": from end to end. */
    private static void moveBetweenTheEnds() {
        becomes(laid(3), "move(0, 2)", x -> x.move(0, 2), 0, "1 2 0");
        becomes(laid(3), "move(2, 0)", x -> x.move(2, 0), 2, "2 0 1");
        becomes(laid(3), "move(0, 1): to the place of its neighbour", x -> x.move(0, 1), 0, "1 0 2");
        becomes(laid(3), "move(1, 0): to the place of its neighbour", x -> x.move(1, 0), 1, "1 0 2");
        becomes(laid(16), "move(0, 15)", x -> x.move(0, 15), 0, "1 2 3 4 5 6 7 8 9 10 11 12 13 14 15 0");
        becomes(laid(16), "move(15, 0)", x -> x.move(15, 0), 15, "15 0 1 2 3 4 5 6 7 8 9 10 11 12 13 14");
    }

    /** clear: "how many LINES it had": none. */
    private static void clearOfNothing() {
        CHECK.leaves(BlockMarker::new, "no LINES: clear()", x -> x.clear(), 0);
        CHECK.leaves(laid(0), "none laid: clear()", x -> x.clear(), 0);
        BlockMarker x = laid(3).get();
        CHECK.same("clear()", x.clear(), 3);
        CHECK.same("clear() again", x.clear(), 0);
    }

    /** clear: "THE ANSWER is empty: how many LINES it had": all 16; nothing else goes. */
    private static void clearOfAll() {
        becomes(laid(16), "clear() of 16", x -> x.clear(), 16, "");
        BlockMarker x = laid(16).get();
        x.clear();
        CHECK.isTrue("cleared, it is as if none had been laid", Picture.of(x).equals(Picture.of(laid(0).get())));
    }

    /** at: "The LINE at a place; NONE." */
    private static void atWhichPlace() {
        for (int many : new int[] {0, 1, 3, 16}) {
            for (int place : new int[] {MIN, -1, many, MAX}) {
                CHECK.leaves(laid(many), "at(" + place + ") of " + many, x -> x.at(place), NONE);
            }
            if (many > 0) {
                CHECK.leaves(laid(many), "at(0) of " + many, x -> x.at(0), 0);
                CHECK.leaves(laid(many), "at(last) of " + many, x -> x.at(many - 1), many - 1);
            }
        }
        BlockMarker x = laid(3).get();
        x.take(0);
        CHECK.same("at(1) behind take(0)", x.at(1), 2);
        CHECK.same("at(2) behind take(0)", x.at(2), NONE);
        x.clear();
        CHECK.same("at(0) behind clear()", x.at(0), NONE);
    }

    /** "How many LINES THE ANSWER has." */
    private static void sizeAtTheEnds() {
        for (int many : new int[] {0, 1, 15, 16}) {
            CHECK.leaves(laid(many), "size() of " + many, x -> x.size(), many);
        }
        BlockMarker x = laid(16).get();
        x.lay(0, 0);
        x.lay(16, 0);
        CHECK.same("size() behind refusals", x.size(), 16);
    }
}
