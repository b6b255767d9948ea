import java.util.List;
import java.util.function.LongSupplier;
import java.util.function.Supplier;
import java.util.function.ToLongFunction;

/** Counts and prints the calls whose answer is not the one that is due. */
final class Check {
    private final String name;
    private int wrong;
    private int done;

    Check(String name) {
        this.name = name;
    }

    void same(String call, long got, long want) {
        done++;
        if (got != want) {
            wrong++;
            System.out.println(name + ": " + call + " answered " + got + ", due is " + want);
        }
    }

    void isTrue(String what, boolean holds) {
        same(what, holds ? 1 : 0, 1);
    }

    /** A refusal: the answer that is due, and nothing has changed. */
    void refused(BlockMarker x, String call, LongSupplier action, long want) {
        long before = x.digest();
        same(call, action.getAsLong(), want);
        same("digest() behind the refused " + call, x.digest(), before);
    }

    /**
     * The answer that is due, and no later call shows that this one was made: two objects are made
     * alike, one of them is asked, and then all that they show is the same.
     */
    void leaves(Supplier<BlockMarker> making, String call, ToLongFunction<BlockMarker> action, long want) {
        BlockMarker asked = making.get();
        same(call, action.applyAsLong(asked), want);
        List<String> due = Picture.of(making.get());
        List<String> shown = Picture.of(asked);
        same("how much is shown behind " + call, shown.size(), due.size());
        for (int i = 0; i < Math.min(shown.size(), due.size()); i++) {
            isTrue("behind " + call + ": " + shown.get(i) + ", without it " + due.get(i), shown.get(i).equals(due.get(i)));
        }
    }

    void end() {
        System.out.println(name + ": " + done + " checks, " + wrong + " wrong");
        if (wrong != 0) {
            System.exit(1);
        }
    }
}
