/** Objects that several tests begin with. */
final class Samples {
    private Samples() {
    }

    /** SET 0 5; SET 1 7; ADD 0 1; PRINT 0; TIMES 1 0; PRINT 1; a DECOY 6; 7 is WRONG for 2. */
    static BlockMarker sums() {
        BlockMarker x = new BlockMarker();
        x.line(0, 0, 5);
        x.line(0, 1, 7);
        x.line(2, 0, 1);
        x.line(4, 0, 0);
        x.line(3, 1, 0);
        x.line(4, 1, 0);
        x.decoy(0, 0, 9);
        x.wrong(2, 2, 1, 0);
        x.input(0, 0, 0, 0, 0, 0);
        x.input(1, 2, 3, 4, 5, 6);
        return x;
    }

    /** n NOTES of the MODEL: each order of them is right. */
    static BlockMarker notes(int n) {
        BlockMarker x = new BlockMarker();
        for (int i = 0; i < n; i++) {
            x.line(5, 0, 0);
        }
        return x;
    }

    /** n PRINTS of the MODEL: one order alone is right. */
    static BlockMarker prints(int n) {
        BlockMarker x = new BlockMarker();
        for (int i = 0; i < n; i++) {
            x.line(4, i % 6, 0);
        }
        return x;
    }

    /**
     * LINES of all KINDS: so many of the MODEL, WRONG ones of the first of them, DECOYS; one INPUT; a
     * run() of the MODEL, so that there is something that a call could spoil.
     */
    static BlockMarker mixed(int ofModel, int wrongs, int decoys) {
        BlockMarker x = new BlockMarker();
        for (int i = 0; i < ofModel; i++) {
            x.line(i % 7, i % 6, (i + 1) % 6);
        }
        for (int p = 0; p < wrongs; p++) {
            x.wrong(p, (p + 3) % 7, p % 6, (p + 2) % 6);
        }
        for (int i = 0; i < decoys; i++) {
            x.decoy(4, i % 6, 0);
        }
        x.input(3, 1, 4, 1, 5, 9);
        x.run(0, true);
        return x;
    }

    static void layAll(BlockMarker x, int... row) {
        for (int l : row) {
            x.lay(l, x.size());
        }
    }

    /** THE ANSWER as text, "3 1 2". */
    static String answerOf(BlockMarker x) {
        StringBuilder text = new StringBuilder();
        for (int place = 0; place < x.size(); place++) {
            text.append(place == 0 ? "" : " ").append(x.at(place));
        }
        return text.toString();
    }
}
