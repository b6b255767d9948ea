/** Promises 26 and 27: count, digest. */
public final class ToldTest {
    private static final Check CHECK = new Check("ToldTest");

    public static void main(String[] args) {
        count();
        digest();
        CHECK.end();
    }

    private static void count() {
        BlockMarker x = Samples.sums();
        x.decoy(5, 0, 0);
        int[] want = {9, 6, 2, 1, 2, 13, 0};
        for (int what = 0; what < want.length; what++) {
            CHECK.same("count(" + what + ")", x.count(what), want[what]);
        }
        for (int what : new int[] {Integer.MIN_VALUE, -1, 7, Integer.MAX_VALUE}) {
            CHECK.same("count(" + what + ")", x.count(what), BlockMarker.OUTSIDE);
        }
        CHECK.same("count(5) of 12 PRINTS", Samples.prints(12).count(5), 66);
        CHECK.same("count(5) of 12 NOTES", Samples.notes(12).count(5), 0);
        x.follow();
        x.follow();
        x.clear();
        CHECK.same("HINTS done ever", x.count(6), 2);
        x.wipe();
        CHECK.same("HINTS done ever, behind wipe()", x.count(6), 2);
    }

    private static long digestOf(long... numbers) {
        long h = 101;
        for (long n : numbers) {
            h = 31 * h + n;
        }
        return h;
    }

    private static void digest() {
        BlockMarker x = new BlockMarker();
        CHECK.same("digest() of nothing", x.digest(), digestOf(0));
        x.line(5, Integer.MIN_VALUE, Integer.MAX_VALUE);
        CHECK.same("digest() of a LINE", x.digest(), digestOf(5, Integer.MIN_VALUE, Integer.MAX_VALUE, 0, -1, 0));
        x.wrong(0, 0, 3, -4);
        long[] lines = {5, Integer.MIN_VALUE, Integer.MAX_VALUE, 0, 1, 0, 3, -4, 2, 0};
        CHECK.same("digest() of a pair", x.digest(), digestOf(with(lines, 0)));
        x.input(-1, 2, -3, 4, -5, 6);
        CHECK.same("digest() with an INPUT", x.digest(), digestOf(with(lines, -1, 2, -3, 4, -5, 6, 0)));
        x.lay(1, 0);
        CHECK.same("digest() with an ANSWER", x.digest(), digestOf(with(lines, -1, 2, -3, 4, -5, 6, 1, 0)));
        x.lay(0, 0);
        CHECK.same("digest() of 0 1", x.digest(), digestOf(with(lines, -1, 2, -3, 4, -5, 6, 0, 1, 0)));
        x.follow();
        CHECK.same("digest() with a HINT done", x.digest(), digestOf(with(lines, -1, 2, -3, 4, -5, 6, 0, 1)));
        long before = x.digest();
        x.run(0, false);
        CHECK.same("digest() has no run()", x.digest(), before);
    }

    private static long[] with(long[] first, long... rest) {
        long[] all = java.util.Arrays.copyOf(first, first.length + rest.length);
        System.arraycopy(rest, 0, all, first.length, rest.length);
        return all;
    }
}
