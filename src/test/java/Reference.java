import java.util.ArrayDeque;
import java.util.ArrayList;
import java.util.HashMap;
import java.util.List;
import java.util.Map;

/**
 * The document's words once more, in their slowest form and by other ways than BlockMarker's: RIGHT
 * ORDERS are listed one by one, THE MARK is a search over CHANGES, THE KEPT LINES are the best of all
 * choices. It takes few LINES alone.
 */
final class Reference {
    final List<int[]> lines = new ArrayList<>(); // kind, v, w, role, partner
    final List<Integer> answer = new ArrayList<>();

    /** What needs() has found by now; LINES only come, and what holds of two does not change then. */
    private final Map<Integer, Boolean> knownNeeds = new HashMap<>();

    int role(int l) {
        return lines.get(l)[3];
    }

    int partner(int l) {
        return lines.get(l)[4];
    }

    List<Integer> model() {
        List<Integer> all = new ArrayList<>();
        for (int l = 0; l < lines.size(); l++) {
            if (role(l) == 0) {
                all.add(l);
            }
        }
        return all;
    }

    private List<Integer> reads(int l) {
        int[] line = lines.get(l);
        return switch (line[0]) {
            case 1 -> List.of(line[2]);
            case 2, 3, 6 -> List.of(line[1], line[2]);
            case 4 -> List.of(line[1]);
            default -> List.of();
        };
    }

    private List<Integer> writes(int l) {
        int[] line = lines.get(l);
        return line[0] == 4 || line[0] == 5 ? List.of() : List.of(line[1]);
    }

    private static boolean meet(List<Integer> a, List<Integer> b) {
        return a.stream().anyMatch(b::contains);
    }

    boolean needs(int a, int b) {
        if (a >= b || role(a) != 0 || role(b) != 0) {
            return false;
        }
        Boolean known = knownNeeds.get(100 * a + b);
        if (known != null) {
            return known;
        }
        boolean holds = meet(writes(a), reads(b)) || meet(reads(a), writes(b)) || meet(writes(a), writes(b))
            || lines.get(a)[0] == 4 && lines.get(b)[0] == 4;
        for (int c = a + 1; c < b && !holds; c++) {
            holds = needs(a, c) && needs(c, b);
        }
        knownNeeds.put(100 * a + b, holds);
        return holds;
    }

    /** All RIGHT ORDERS, the least first. */
    List<List<Integer>> rightOrders() {
        List<List<Integer>> found = new ArrayList<>();
        extend(new ArrayList<>(), model(), found);
        return found;
    }

    private void extend(List<Integer> row, List<Integer> left, List<List<Integer>> found) {
        if (left.isEmpty()) {
            found.add(new ArrayList<>(row));
        }
        for (Integer l : left) {
            if (left.stream().noneMatch(other -> needs(other, l))) {
                List<Integer> rest = new ArrayList<>(left);
                rest.remove(l);
                row.add(l);
                extend(row, rest, found);
                row.remove(row.size() - 1);
            }
        }
    }

    /** Breadth first over all CHANGES from THE ANSWER to the first RIGHT ORDER. */
    int mark() {
        List<List<Integer>> goals = rightOrders();
        Map<List<Integer>, Integer> seen = new HashMap<>();
        ArrayDeque<List<Integer>> queue = new ArrayDeque<>();
        seen.put(new ArrayList<>(answer), 0);
        queue.add(new ArrayList<>(answer));
        while (!queue.isEmpty()) {
            List<Integer> row = queue.remove();
            int steps = seen.get(row);
            if (goals.contains(row)) {
                return steps;
            }
            for (List<Integer> next : changed(row)) {
                if (seen.putIfAbsent(next, steps + 1) == null) {
                    queue.add(next);
                }
            }
        }
        return -1;
    }

    private List<List<Integer>> changed(List<Integer> row) {
        List<List<Integer>> all = new ArrayList<>();
        for (int place = 0; place < row.size(); place++) {
            int l = row.get(place);
            List<Integer> without = new ArrayList<>(row);
            without.remove(place);
            all.add(without);
            insertions(without, l, all);
            if (role(l) == 2 && !row.contains(partner(l))) {
                List<Integer> swapped = new ArrayList<>(row);
                swapped.set(place, partner(l));
                all.add(swapped);
            }
        }
        for (int l = 0; l < lines.size(); l++) {
            if (!row.contains(l)) {
                insertions(row, l, all);
            }
        }
        return all;
    }

    private static void insertions(List<Integer> row, int l, List<List<Integer>> all) {
        for (int to = 0; to <= row.size(); to++) {
            List<Integer> more = new ArrayList<>(row);
            more.add(to, l);
            all.add(more);
        }
    }

    boolean useless(int l) {
        return role(l) == 1 || role(l) == 2 && answer.contains(partner(l));
    }

    private int takenFor(int l) {
        return role(l) == 2 ? partner(l) : l;
    }

    /** By place: of all choices that hold, the most; of those the one that has the first places. */
    boolean[] kept() {
        int n = answer.size();
        boolean[] best = new boolean[n];
        int most = -1;
        int dropped = 0;
        for (int place = 0; place < n; place++) {
            dropped |= useless(answer.get(place)) ? 1 << (n - 1 - place) : 0;
        }
        // Counted downwards with place 0 as the highest bit, the first of equals is the one due.
        for (int choice = (1 << n) - 1; choice >= 0; choice--) {
            if ((choice & dropped) != 0 || Integer.bitCount(choice) <= most) {
                continue;
            }
            boolean[] has = new boolean[n];
            for (int place = 0; place < n; place++) {
                has[place] = (choice >> (n - 1 - place) & 1) != 0;
            }
            if (holds(has)) {
                most = Integer.bitCount(choice);
                best = has;
            }
        }
        return best;
    }

    private boolean holds(boolean[] has) {
        for (int i = 0; i < has.length; i++) {
            for (int j = i + 1; j < has.length; j++) {
                if (has[i] && has[j] && needs(takenFor(answer.get(j)), takenFor(answer.get(i)))) {
                    return false;
                }
            }
        }
        return true;
    }

    /** CHANGE, LINE, place. */
    int[] hint() {
        for (int place = 0; place < answer.size(); place++) {
            if (useless(answer.get(place))) {
                return new int[] {0, answer.get(place), place};
            }
        }
        for (int place = 0; place < answer.size(); place++) {
            if (role(answer.get(place)) == 2) {
                return new int[] {3, answer.get(place), place};
            }
        }
        for (int l : model()) {
            if (!answer.contains(l)) {
                return new int[] {1, l, placeFor(l, answer)};
            }
        }
        boolean[] kept = kept();
        for (int place = 0; place < kept.length; place++) {
            if (!kept[place]) {
                List<Integer> without = new ArrayList<>(answer);
                int l = without.remove(place);
                return new int[] {2, l, placeFor(l, without)};
            }
        }
        return new int[] {-1, -1, -1};
    }

    private int placeFor(int l, List<Integer> row) {
        boolean[] kept = kept();
        for (int i = row.size() - 1; i >= 0; i--) {
            if (kept[answer.indexOf(row.get(i))] && needs(row.get(i), l)) {
                return i + 1;
            }
        }
        return 0;
    }

    void doHint() {
        int[] hint = hint();
        Integer l = hint[1];
        switch (hint[0]) {
            case 0 -> answer.remove(l);
            case 1 -> answer.add(hint[2], l);
            case 2 -> {
                answer.remove(l);
                answer.add(hint[2], l);
            }
            case 3 -> answer.set(hint[2], partner(l));
            default -> { }
        }
    }
}
