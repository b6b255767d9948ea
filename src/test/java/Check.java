/** Counts and prints the calls whose answer is not the one that is due. */
final class Check {
    private final String name;
    private int wrong;
    private int done;

    Check(String name) {
        this.name = name;
    }

    void same(String call, long got, long want) {
        done++;
        if (got != want) {
            wrong++;
            System.out.println(name + ": " + call + " answered " + got + ", due is " + want);
        }
    }

    void isTrue(String what, boolean holds) {
        same(what, holds ? 1 : 0, 1);
    }

    /** A refusal: the answer that is due, and nothing has changed. */
    void refused(BlockMarker x, String call, java.util.function.LongSupplier action, long want) {
        long before = x.digest();
        same(call, action.getAsLong(), want);
        same("digest() behind the refused " + call, x.digest(), before);
    }

    void end() {
        System.out.println(name + ": " + done + " checks, " + wrong + " wrong");
        if (wrong != 0) {
            System.exit(1);
        }
    }
}
