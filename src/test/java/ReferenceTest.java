import java.util.List;

/** Promises 8 to 11 and 22 to 25 against Reference, over many made-up programs and answers. */
public final class ReferenceTest {
    private static final Check CHECK = new Check("ReferenceTest");
    private static long seed = 20261116;

    /** The same numbers in every run. */
    private static int below(int bound) {
        seed = seed * 6364136223846793005L + 1442695040888963407L;
        return (int) ((seed >>> 33) % bound);
    }

    public static void main(String[] args) {
        for (int i = 0; i < 400; i++) {
            program(1 + below(5), 6, true);
        }
        for (int i = 0; i < 150; i++) {
            program(4 + below(3), 11, false);
        }
        for (int i = 0; i < 400; i++) {
            rightOrdersRunAlike();
        }
        CHECK.end();
    }

    private static int[] madeUp(int role, int partner) {
        // Few VARIABLES make orders that are bound in part.
        return new int[] {below(7), below(4), below(4), role, partner};
    }

    /** A new object with the LINES of r: each part has its own, as one is good for 512 calls alone. */
    private static BlockMarker made(Reference r) {
        BlockMarker x = new BlockMarker();
        for (int l = 0; l < r.lines.size(); l++) {
            int[] a = r.lines.get(l);
            int got = a[3] == 0 ? x.line(a[0], a[1], a[2])
                : a[3] == 1 ? x.decoy(a[0], a[1], a[2]) : x.wrong(a[4], a[0], a[1], a[2]);
            CHECK.same("the LINE's number", got, l);
        }
        return x;
    }

    private static boolean mayPair(Reference r, int p) {
        return r.role(p) == 0 && r.lines.stream().noneMatch(line -> line[3] == 2 && line[4] == p);
    }

    private static void program(int ofModel, int most, boolean searchMark) {
        Reference r = new Reference();
        int left = ofModel;
        while (left > 0 || r.lines.size() < most && below(3) > 0) {
            int room = most - r.lines.size() - left;
            int p = r.lines.isEmpty() ? 0 : below(r.lines.size());
            if (left > 0 && (room <= 0 || below(2) == 0)) {
                r.lines.add(madeUp(0, -1));
                left--;
            } else if (room > 0 && !r.lines.isEmpty() && mayPair(r, p) && below(3) > 0) {
                r.lines.add(madeUp(2, p));
            } else if (room > 0) {
                r.lines.add(madeUp(1, -1));
            }
        }
        needs(r);
        orders(r);
        for (int i = 0; i < 4; i++) {
            BlockMarker x = made(r);
            r.answer.clear();
            answer(x, r);
            followAll(x, r, searchMark);
        }
    }

    private static void needs(Reference r) {
        BlockMarker x = made(r);
        int pairs = 0;
        for (int a = 0; a < r.lines.size(); a++) {
            for (int b = 0; b < r.lines.size(); b++) {
                CHECK.same("needs(" + a + ", " + b + ")", x.needs(a, b), r.needs(a, b) ? 1 : 0);
                pairs += r.needs(a, b) ? 1 : 0;
            }
        }
        CHECK.same("count(5)", x.count(5), pairs);
    }

    private static void orders(Reference r) {
        BlockMarker x = made(r);
        List<List<Integer>> all = r.rightOrders();
        CHECK.same("orders()", x.orders(), all.size());
        for (int k = 0; k < all.size(); k++) {
            x = k % 60 == 59 ? made(r) : x;
            for (int i = 0; i < all.get(k).size(); i++) {
                CHECK.same("right(" + k + ", " + i + ")", x.right(k, i), all.get(k).get(i));
            }
        }
    }

    private static void answer(BlockMarker x, Reference r) {
        int tries = below(2 * r.lines.size() + 2);
        for (int i = 0; i < tries; i++) {
            int l = below(r.lines.size());
            int place = below(r.answer.size() + 1);
            if (!r.answer.contains(l)) {
                r.answer.add(place, l);
                CHECK.same("lay", x.lay(l, place), r.answer.size());
            }
        }
    }

    private static void followAll(BlockMarker x, Reference r, boolean searchMark) {
        for (int step = 0; step < 40; step++) {
            String row = " of " + r.answer;
            int[] hint = r.hint();
            int mark = x.mark();
            if (searchMark) {
                CHECK.same("mark()" + row, mark, r.mark());
            }
            boolean[] kept = r.kept();
            for (int place = 0; place < kept.length; place++) {
                CHECK.same("kept(" + place + ")" + row, x.kept(place), kept[place] ? 1 : 0);
            }
            for (int what = 0; what < 3; what++) {
                CHECK.same("hint(" + what + ")" + row, x.hint(what), hint[what]);
            }
            CHECK.same("which()" + row, x.which(), r.rightOrders().indexOf(r.answer));
            CHECK.same("a mark of 0 is a RIGHT ORDER" + row, mark == 0 ? 1 : 0, x.which() >= 0 ? 1 : 0);
            CHECK.same("follow()" + row, x.follow(), mark - 1);
            r.doHint();
            CHECK.isTrue("behind follow()" + row, Samples.answerOf(x).equals(r.answer.toString().replaceAll("[\\[\\],]", "")));
            if (hint[0] == BlockMarker.NONE) {
                return;
            }
        }
        CHECK.isTrue("follow() comes to an end", false);
    }

    private static void rightOrdersRunAlike() {
        Reference r = new Reference();
        for (int l = 0; l < 12; l++) {
            r.lines.add(madeUp(0, -1));
        }
        BlockMarker x = made(r);
        for (int i = 0; i < 8; i++) {
            x.input(below(9) - 4, below(9) - 4, below(9) - 4, below(9) - 4, below(9) - 4, below(9) - 4);
        }
        long k = below(1 << 30) % x.orders();
        for (int i = 0; i < 12; i++) {
            x.lay(x.right(k, i), i);
        }
        CHECK.same("which() of right order " + k, x.which(), k);
        CHECK.same("mark() of right order " + k, x.mark(), 0);
        CHECK.same("alike() of right order " + k, x.alike(), BlockMarker.NONE);
    }
}
