import java.util.ArrayList;
import java.util.HashMap;
import java.util.List;
import java.util.Map;

/**
 * Every call of the face once more, slowly, in the document's words: refusals are looked at one by
 * one in the order in which the call tells them, and what a call tells is worked out when it is asked.
 */
final class Twin {
    private static final int NONE = -1, UNKNOWN = -101, OUTSIDE = -102, STATE = -103, FULL = -104;

    private Reference r = new Reference();
    private final List<int[]> inputs = new ArrayList<>();
    private final List<Integer> printed = new ArrayList<>();
    private int[] variables = new int[6];
    private int hintsDone;

    private boolean isLine(int l) {
        return l >= 0 && l < r.lines.size();
    }

    private static boolean isVariable(int v) {
        return v >= 0 && v <= 5;
    }

    private static boolean isOutside(int kind, int v, int w) {
        boolean looksAtV = kind != 5;
        boolean looksAtW = kind != 5 && kind != 4;
        boolean vFits = !looksAtV || isVariable(v);
        boolean wFits = !looksAtW || kind == 0 || isVariable(w);
        return kind < 0 || kind > 6 || !vFits || !wFits;
    }

    private int wrongLineOf(int p) {
        for (int l = 0; l < r.lines.size(); l++) {
            if (r.role(l) == 2 && r.partner(l) == p) {
                return l;
            }
        }
        return NONE;
    }

    private int come(int kind, int v, int w, int role, int partner) {
        r.lines.add(new int[] {kind, v, w, role, partner});
        return r.lines.size() - 1;
    }

    long line(int kind, int v, int w) {
        if (isOutside(kind, v, w)) {
            return OUTSIDE;
        }
        if (!r.answer.isEmpty()) {
            return STATE;
        }
        return r.lines.size() == 16 || r.model().size() == 12 ? FULL : come(kind, v, w, 0, NONE);
    }

    long decoy(int kind, int v, int w) {
        if (isOutside(kind, v, w)) {
            return OUTSIDE;
        }
        if (!r.answer.isEmpty()) {
            return STATE;
        }
        return r.lines.size() == 16 ? FULL : come(kind, v, w, 1, NONE);
    }

    long wrong(int p, int kind, int v, int w) {
        if (!isLine(p)) {
            return UNKNOWN;
        }
        if (isOutside(kind, v, w)) {
            return OUTSIDE;
        }
        if (!r.answer.isEmpty() || r.role(p) != 0 || wrongLineOf(p) != NONE) {
            return STATE;
        }
        return r.lines.size() == 16 ? FULL : come(kind, v, w, 2, p);
    }

    long input(int... ints) {
        if (!r.answer.isEmpty()) {
            return STATE;
        }
        if (inputs.size() == 8) {
            return FULL;
        }
        inputs.add(ints.clone());
        return inputs.size() - 1;
    }

    long wipe() {
        int many = r.lines.size();
        r = new Reference();
        inputs.clear();
        printed.clear();
        variables = new int[6];
        return many;
    }

    long told(int l, int what) {
        if (!isLine(l)) {
            return UNKNOWN;
        }
        if (what < 0 || what > 4) {
            return OUTSIDE;
        }
        return what == 4 && r.role(l) == 0 ? wrongLineOf(l) : r.lines.get(l)[what];
    }

    long needs(int a, int b) {
        return !isLine(a) || !isLine(b) ? UNKNOWN : r.needs(a, b) ? 1 : 0;
    }

    /** How many orders of these LINES are right, those that stand ahead of them being gone. */
    private long ways(List<Integer> left, Map<List<Integer>, Long> known) {
        Long sure = known.get(left);
        if (sure != null) {
            return sure;
        }
        long sum = left.isEmpty() ? 1 : 0;
        for (Integer l : mayComeNext(left)) {
            sum += ways(without(left, l), known);
        }
        known.put(left, sum);
        return sum;
    }

    private List<Integer> mayComeNext(List<Integer> left) {
        return left.stream().filter(l -> left.stream().noneMatch(other -> r.needs(other, l))).toList();
    }

    private static List<Integer> without(List<Integer> row, Integer l) {
        List<Integer> rest = new ArrayList<>(row);
        rest.remove(l);
        return rest;
    }

    long orders() {
        return ways(r.model(), new HashMap<>());
    }

    long right(long k, int i) {
        Map<List<Integer>, Long> known = new HashMap<>();
        List<Integer> left = r.model();
        if (k < 0 || k >= ways(left, known) || i < 0 || i >= left.size()) {
            return NONE;
        }
        long skip = k;
        for (int place = 0; ; place++) {
            for (Integer l : mayComeNext(left)) {
                long many = ways(without(left, l), known);
                if (skip >= many) {
                    skip -= many;
                    continue;
                }
                if (place == i) {
                    return l;
                }
                left = without(left, l);
                break;
            }
        }
    }

    long which() {
        Map<List<Integer>, Long> known = new HashMap<>();
        List<Integer> left = r.model();
        long k = 0;
        for (Integer at : r.answer) {
            if (!mayComeNext(left).contains(at)) {
                return NONE;
            }
            for (Integer l : mayComeNext(left)) {
                k += l < at ? ways(without(left, l), known) : 0;
            }
            left = without(left, at);
        }
        return left.isEmpty() ? k : NONE;
    }

    private boolean isPlace(int place) {
        return place >= 0 && place < r.answer.size();
    }

    long lay(int l, int place) {
        if (!isLine(l)) {
            return UNKNOWN;
        }
        if (place != r.answer.size() && !isPlace(place)) {
            return OUTSIDE;
        }
        if (r.answer.contains(l)) {
            return STATE;
        }
        r.answer.add(place, l);
        return r.answer.size();
    }

    long take(int place) {
        return isPlace(place) ? r.answer.remove(place) : OUTSIDE;
    }

    long move(int place, int to) {
        if (!isPlace(place) || !isPlace(to)) {
            return OUTSIDE;
        }
        int l = r.answer.remove(place);
        r.answer.add(to, l);
        return l;
    }

    long clear() {
        int many = r.answer.size();
        r.answer.clear();
        return many;
    }

    long at(int place) {
        return isPlace(place) ? r.answer.get(place) : NONE;
    }

    long size() {
        return r.answer.size();
    }

    /** What these LINES print by an INPUT; the VARIABLES become what they are behind that. */
    private List<Integer> prints(List<Integer> row, int[] x) {
        List<Integer> ints = new ArrayList<>();
        for (int l : row) {
            int[] line = r.lines.get(l);
            int v = line[1];
            int w = line[2];
            switch (line[0]) {
                case 0 -> x[v] = w;
                case 1 -> x[v] = x[w];
                case 2 -> x[v] = (int) ((long) x[v] + x[w]);
                case 3 -> x[v] = (int) ((long) x[v] * x[w]);
                case 4 -> ints.add(x[v]);
                case 6 -> x[v] = (int) ((long) x[v] + (x[w] > 0 ? 1 : 0));
                default -> { }
            }
        }
        return ints;
    }

    long run(int input, boolean model) {
        if (input < 0 || input >= inputs.size()) {
            return UNKNOWN;
        }
        variables = inputs.get(input).clone();
        printed.clear();
        printed.addAll(prints(model ? r.model() : r.answer, variables));
        return printed.size();
    }

    long printed(int k) {
        return k >= 0 && k < printed.size() ? printed.get(k) : 0;
    }

    long value(int v) {
        return isVariable(v) ? variables[v] : 0;
    }

    long alike() {
        for (int i = 0; i < inputs.size(); i++) {
            List<Integer> due = prints(r.model(), inputs.get(i).clone());
            if (!prints(r.answer, inputs.get(i).clone()).equals(due)) {
                return i;
            }
        }
        return NONE;
    }

    /** By what ReferenceTest finds by search: one CHANGE for what is dropped, swapped, or not KEPT. */
    long mark() {
        int sum = r.model().size();
        for (boolean kept : r.kept()) {
            sum -= kept ? 1 : 0;
        }
        for (int l : r.answer) {
            sum += r.role(l) == 0 ? 0 : 1;
        }
        return sum;
    }

    long kept(int place) {
        return !isPlace(place) ? OUTSIDE : r.kept()[place] ? 1 : 0;
    }

    long hint(int what) {
        return what < 0 || what > 2 ? OUTSIDE : r.hint()[what];
    }

    long follow() {
        if (r.hint()[0] == NONE) {
            return NONE;
        }
        r.doHint();
        hintsDone++;
        return mark();
    }

    private long manyOf(int role) {
        return r.lines.stream().filter(line -> line[3] == role).count();
    }

    private long pairs() {
        long sum = 0;
        for (int a = 0; a < r.lines.size(); a++) {
            for (int b = 0; b < r.lines.size(); b++) {
                sum += r.needs(a, b) ? 1 : 0;
            }
        }
        return sum;
    }

    long count(int what) {
        return switch (what) {
            case 0 -> r.lines.size();
            case 1, 2, 3 -> manyOf(what - 1);
            case 4 -> inputs.size();
            case 5 -> pairs();
            case 6 -> hintsDone;
            default -> OUTSIDE;
        };
    }

    long digest() {
        List<Long> numbers = new ArrayList<>();
        for (int l = 0; l < r.lines.size(); l++) {
            for (int what = 0; what <= 4; what++) {
                numbers.add(told(l, what));
            }
        }
        for (int[] input : inputs) {
            for (int n : input) {
                numbers.add((long) n);
            }
        }
        for (int l : r.answer) {
            numbers.add((long) l);
        }
        numbers.add((long) hintsDone);
        long h = 101;
        for (long n : numbers) {
            h = 31 * h + n;
        }
        return h;
    }
}
