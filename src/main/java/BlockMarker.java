import java.util.Arrays;

/**
 * A marker of shuffled lines: it works out which orders of a program's lines are right, runs an
 * answer, marks it by the fewest changes to the nearest right order, and hints at the first of them.
 */
public final class BlockMarker {
    public static final int NONE = -1, UNKNOWN = -101, OUTSIDE = -102, STATE = -103, FULL = -104;

    private static final int MOST_LINES = 16, MOST_OF_MODEL = 12, MOST_INPUTS = 8, VARIABLES = 6;
    private static final int WHATS_OF_LINE = 5, WHATS_OF_HINT = 3;

    private final Lines lines;
    private final Model model;
    private final Answer answer;
    private final Marking marking;
    private final int[][] inputs;
    private int manyInputs;
    private int hintsDone;

    /** What run() did last; alike() has machines of its own, so that it leaves this one as it is. */
    private final Machine latest;
    private final Machine answerMachine;
    private final Machine modelMachine;

    public BlockMarker() {
        lines = new Lines();
        model = new Model();
        answer = new Answer();
        marking = new Marking(lines, model, answer);
        inputs = new int[MOST_INPUTS][VARIABLES];
        latest = new Machine();
        answerMachine = new Machine();
        modelMachine = new Machine();
    }

    // ---- lines, inputs: while THE ANSWER is empty

    public int line(int kind, int v, int w) {
        int refusal = refusalOfLine(kind, v, w, lines.many >= MOST_LINES || model.length >= MOST_OF_MODEL);
        if (refusal != 0) {
            return refusal;
        }
        int l = lines.add(kind, v, w, Lines.OF_MODEL, NONE);
        model.join(lines, l);
        return l;
    }

    public int decoy(int kind, int v, int w) {
        int refusal = refusalOfLine(kind, v, w, lines.many >= MOST_LINES);
        return refusal != 0 ? refusal : lines.add(kind, v, w, Lines.DECOY, NONE);
    }

    public int wrong(int p, int kind, int v, int w) {
        if (!lines.has(p)) {
            return UNKNOWN;
        }
        int refusal = refusalOfLine(kind, v, w, lines.many >= MOST_LINES);
        if (refusal == 0 || refusal == FULL) {
            // A bad PARTNER is a STATE too, and that is told ahead of FULL.
            boolean free = lines.roleOf(p) == Lines.OF_MODEL && lines.mateOf(p) == NONE;
            refusal = free ? refusal : STATE;
        }
        return refusal != 0 ? refusal : lines.add(kind, v, w, Lines.WRONG, p);
    }

    public int input(int a, int b, int c, int d, int e, int f) {
        if (answer.length > 0) {
            return STATE;
        }
        if (manyInputs >= MOST_INPUTS) {
            return FULL;
        }
        int[] row = inputs[manyInputs];
        row[0] = a;
        row[1] = b;
        row[2] = c;
        row[3] = d;
        row[4] = e;
        row[5] = f;
        return manyInputs++;
    }

    public int wipe() {
        int many = lines.many;
        lines.forget();
        model.forget();
        answer.length = 0;
        manyInputs = 0;
        latest.forget();
        return many;
    }

    public int told(int l, int what) {
        if (!lines.has(l)) {
            return UNKNOWN;
        }
        return what >= 0 && what < WHATS_OF_LINE ? lines.tell(l, what) : OUTSIDE;
    }

    // ---- needs, right orders

    public int needs(int a, int b) {
        if (!lines.has(a) || !lines.has(b)) {
            return UNKNOWN;
        }
        return model.isAhead(model.rankOf(a), model.rankOf(b)) ? 1 : 0;
    }

    public long orders() {
        return model.manyOrders();
    }

    public int right(long k, int i) {
        return model.lineOfOrder(k, i);
    }

    public long which() {
        return model.orderOf(answer);
    }

    // ---- the answer

    public int lay(int l, int place) {
        if (!lines.has(l)) {
            return UNKNOWN;
        }
        if (place < 0 || place > answer.length) {
            return OUTSIDE;
        }
        if (answer.holds(l)) {
            return STATE;
        }
        answer.insert(l, place);
        return answer.length;
    }

    public int take(int place) {
        return answer.hasPlace(place) ? answer.remove(place) : OUTSIDE;
    }

    public int move(int place, int to) {
        if (!answer.hasPlace(place) || !answer.hasPlace(to)) {
            return OUTSIDE;
        }
        int l = answer.remove(place);
        answer.insert(l, to);
        return l;
    }

    public int clear() {
        int many = answer.length;
        answer.length = 0;
        return many;
    }

    public int at(int place) {
        return answer.lineAt(place);
    }

    public int size() {
        return answer.length;
    }

    // ---- runs

    public int run(int input, boolean model) {
        if (input < 0 || input >= manyInputs) {
            return UNKNOWN;
        }
        perform(latest, input, model);
        return latest.manyPrints;
    }

    public int printed(int k) {
        return latest.printAt(k);
    }

    public int value(int v) {
        return latest.valueOf(v);
    }

    public int alike() {
        for (int input = 0; input < manyInputs; input++) {
            perform(answerMachine, input, false);
            perform(modelMachine, input, true);
            if (!answerMachine.printsAs(modelMachine)) {
                return input;
            }
        }
        return NONE;
    }

    // ---- marks

    public int mark() {
        marking.study();
        return marking.changes;
    }

    public int kept(int place) {
        if (!answer.hasPlace(place)) {
            return OUTSIDE;
        }
        marking.study();
        return marking.isKept(place) ? 1 : 0;
    }

    public int hint(int what) {
        if (what < 0 || what >= WHATS_OF_HINT) {
            return OUTSIDE;
        }
        marking.study();
        switch (what) {
            case 0:
                return marking.hintChange;
            case 1:
                return marking.hintLine;
            default:
                return marking.hintPlace;
        }
    }

    public int follow() {
        marking.study();
        if (marking.hintChange == NONE) {
            return NONE;
        }
        doHint();
        hintsDone++;
        marking.study();
        return marking.changes;
    }

    // ---- what is told

    public int count(int what) {
        switch (what) {
            case 0:
                return lines.many;
            case 1:
                return model.length;
            case 2:
                return lines.manyOf(Lines.DECOY);
            case 3:
                return lines.manyOf(Lines.WRONG);
            case 4:
                return manyInputs;
            case 5:
                return model.manyPairs();
            case 6:
                return hintsDone;
            default:
                return OUTSIDE;
        }
    }

    public long digest() {
        long h = 101;
        for (int l = 0; l < lines.many; l++) {
            for (int what = 0; what < WHATS_OF_LINE; what++) {
                h = 31 * h + lines.tell(l, what);
            }
        }
        for (int input = 0; input < manyInputs; input++) {
            for (int v = 0; v < VARIABLES; v++) {
                h = 31 * h + inputs[input][v];
            }
        }
        for (int place = 0; place < answer.length; place++) {
            h = 31 * h + answer.lineAt(place);
        }
        return 31 * h + hintsDone;
    }

    /** What line(), decoy() and wrong() refuse alike, in the order that they tell it; 0: nothing. */
    private int refusalOfLine(int kind, int v, int w, boolean full) {
        if (!Lines.isAsTold(kind, v, w)) {
            return OUTSIDE;
        }
        if (answer.length > 0) {
            return STATE;
        }
        return full ? FULL : 0;
    }

    private void perform(Machine machine, int input, boolean ofModel) {
        machine.start(inputs[input]);
        int many = ofModel ? model.length : answer.length;
        for (int i = 0; i < many; i++) {
            machine.step(lines, ofModel ? model.lineOf(i) : answer.lineAt(i));
        }
    }

    private void doHint() {
        int l = marking.hintLine;
        int place = marking.hintPlace;
        switch (marking.hintChange) {
            case Marking.DROP:
                answer.remove(place);
                break;
            case Marking.ADD:
                answer.insert(l, place);
                break;
            case Marking.MOVE:
                answer.remove(answer.placeOf(l));
                answer.insert(l, place);
                break;
            default:
                answer.remove(place);
                answer.insert(lines.mateOf(l), place);
                break;
        }
    }

    /** The LINES, numbered as they come. */
    private static final class Lines {
        static final int SET = 0, COPY = 1, ADD = 2, TIMES = 3, PRINT = 4, NOTE = 5, MORE = 6;
        static final int OF_MODEL = 0, DECOY = 1, WRONG = 2;

        private final int[] kinds = new int[MOST_LINES];
        private final int[] vs = new int[MOST_LINES];
        private final int[] ws = new int[MOST_LINES];
        private final int[] roles = new int[MOST_LINES];
        private final int[] mates = new int[MOST_LINES];
        private int many;

        static boolean isVariable(int v) {
            return v >= 0 && v < VARIABLES;
        }

        static boolean isAsTold(int kind, int v, int w) {
            switch (kind) {
                case NOTE:
                    return true;
                case SET:
                case PRINT:
                    return isVariable(v);
                case COPY:
                case ADD:
                case TIMES:
                case MORE:
                    return isVariable(v) && isVariable(w);
                default:
                    return false;
            }
        }

        boolean has(int l) {
            return l >= 0 && l < many;
        }

        int add(int kind, int v, int w, int role, int mate) {
            if (many >= MOST_LINES) {
                return FULL;
            }
            kinds[many] = kind;
            vs[many] = v;
            ws[many] = w;
            roles[many] = role;
            mates[many] = mate;
            if (has(mate)) {
                mates[mate] = many;
            }
            return many++;
        }

        void forget() {
            many = 0;
        }

        int kindOf(int l) {
            return has(l) ? kinds[l] : NOTE;
        }

        int roleOf(int l) {
            return has(l) ? roles[l] : NONE;
        }

        int mateOf(int l) {
            return has(l) ? mates[l] : NONE;
        }

        int tell(int l, int what) {
            if (!has(l)) {
                return NONE;
            }
            switch (what) {
                case 0:
                    return kinds[l];
                case 1:
                    return vs[l];
                case 2:
                    return ws[l];
                case 3:
                    return roles[l];
                default:
                    return mates[l];
            }
        }

        int manyOf(int role) {
            int sum = 0;
            for (int l = 0; l < many; l++) {
                sum += roles[l] == role ? 1 : 0;
            }
            return sum;
        }

        /** Whether two LINES may not change their order. */
        boolean areBound(int a, int b) {
            if (kindOf(a) == PRINT && kindOf(b) == PRINT) {
                return true;
            }
            int writtenByA = writes(a);
            int writtenByB = writes(b);
            return (writtenByA & (reads(b) | writtenByB)) != 0 || (reads(a) & writtenByB) != 0;
        }

        /** The VARIABLES that a LINE READS, a bit each. */
        private int reads(int l) {
            switch (kindOf(l)) {
                case COPY:
                    return 1 << ws[l];
                case ADD:
                case TIMES:
                case MORE:
                    return 1 << vs[l] | 1 << ws[l];
                case PRINT:
                    return 1 << vs[l];
                default:
                    return 0;
            }
        }

        private int writes(int l) {
            int kind = kindOf(l);
            return kind == PRINT || kind == NOTE ? 0 : 1 << vs[l];
        }
    }

    /**
     * The LINES of the MODEL and their RIGHT ORDERS. A LINE is known here by its rank in THE MODEL
     * ORDER, so that any set of them is a mask of 12 bits, and lesser ranks are lesser numbers.
     */
    private static final class Model {
        private final int[] numbers = new int[MOST_OF_MODEL];
        private final int[] ranks = new int[MOST_LINES];
        private final int[] ahead = new int[MOST_OF_MODEL];
        private int length;

        /** By the set that stands already: how many ways there are to go on. 12! is still an int. */
        private final int[] ways = new int[1 << MOST_OF_MODEL];
        private boolean waysCounted;

        Model() {
            Arrays.fill(ranks, NONE);
        }

        void forget() {
            Arrays.fill(ranks, NONE);
            length = 0;
            waysCounted = false;
        }

        void join(Lines lines, int l) {
            if (length >= MOST_OF_MODEL || l < 0 || l >= MOST_LINES) {
                return;
            }
            int mask = 0;
            for (int r = 0; r < length; r++) {
                if (lines.areBound(numbers[r], l)) {
                    // ahead[r] has the whole chain ahead of r already: a later LINE can't add to it.
                    mask |= ahead[r] | 1 << r;
                }
            }
            numbers[length] = l;
            ranks[l] = length;
            ahead[length] = mask;
            length++;
            waysCounted = false;
        }

        int lineOf(int rank) {
            return rank >= 0 && rank < length ? numbers[rank] : NONE;
        }

        int rankOf(int l) {
            return l >= 0 && l < MOST_LINES ? ranks[l] : NONE;
        }

        boolean isAhead(int rank, int other) {
            return rank >= 0 && rank < length && other >= 0 && other < length && (ahead[other] >> rank & 1) != 0;
        }

        int manyPairs() {
            int sum = 0;
            for (int r = 0; r < length; r++) {
                sum += Integer.bitCount(ahead[r]);
            }
            return sum;
        }

        long manyOrders() {
            countWays();
            return ways[0];
        }

        int lineOfOrder(long k, int i) {
            if (i < 0 || i >= length || k < 0 || k >= manyOrders()) {
                return NONE;
            }
            long left = k;
            int placed = 0;
            int rank = NONE;
            for (int step = 0; step <= i; step++) {
                rank = nextRank(placed, left);
                left -= waysBefore(placed, rank);
                placed |= 1 << rank;
            }
            return lineOf(rank);
        }

        long orderOf(Answer answer) {
            if (answer.length != length) {
                return NONE;
            }
            countWays();
            long k = 0;
            int placed = 0;
            for (int place = 0; place < length; place++) {
                int rank = rankOf(answer.lineAt(place));
                if (!mayCome(rank, placed)) {
                    return NONE;
                }
                k += waysBefore(placed, rank);
                placed |= 1 << rank;
            }
            return k;
        }

        private void countWays() {
            if (waysCounted) {
                return;
            }
            int all = (1 << length) - 1;
            ways[all] = 1;
            for (int placed = all - 1; placed >= 0; placed--) {
                ways[placed] = waysBefore(placed, length);
            }
            waysCounted = true;
        }

        private boolean mayCome(int rank, int placed) {
            return rank >= 0 && rank < length && (placed >> rank & 1) == 0 && (ahead[rank] & ~placed) == 0;
        }

        /** How many ways go on from a set with a rank less than this one. */
        private int waysBefore(int placed, int rank) {
            int sum = 0;
            for (int r = 0; r < rank; r++) {
                if (mayCome(r, placed)) {
                    sum += ways[placed | 1 << r];
                }
            }
            return sum;
        }

        /** The rank with which the k-th of the ways from a set goes on: the last that skips no more than k. */
        private int nextRank(int placed, long k) {
            int last = 0;
            for (int r = 0; r < length; r++) {
                if (mayCome(r, placed) && waysBefore(placed, r) <= k) {
                    last = r;
                }
            }
            return last;
        }
    }

    /** THE ANSWER: a row of LINES, none twice. */
    private static final class Answer {
        private final int[] row = new int[MOST_LINES];
        private int length;

        boolean hasPlace(int place) {
            return place >= 0 && place < length;
        }

        int lineAt(int place) {
            return hasPlace(place) ? row[place] : NONE;
        }

        int placeOf(int l) {
            for (int place = 0; place < length; place++) {
                if (row[place] == l) {
                    return place;
                }
            }
            return NONE;
        }

        boolean holds(int l) {
            return placeOf(l) != NONE;
        }

        void insert(int l, int place) {
            if (length >= MOST_LINES || place < 0 || place > length) {
                return;
            }
            for (int i = length; i > place; i--) {
                row[i] = row[i - 1];
            }
            row[place] = l;
            length++;
        }

        int remove(int place) {
            if (!hasPlace(place)) {
                return NONE;
            }
            int l = row[place];
            length--;
            for (int i = place; i < length; i++) {
                row[i] = row[i + 1];
            }
            return l;
        }
    }

    /** A RUN: the VARIABLES, and what it PRINTED. */
    private static final class Machine {
        private final int[] variables = new int[VARIABLES];
        private final int[] prints = new int[MOST_LINES];
        private int manyPrints;

        void forget() {
            Arrays.fill(variables, 0);
            manyPrints = 0;
        }

        void start(int[] input) {
            System.arraycopy(input, 0, variables, 0, VARIABLES);
            manyPrints = 0;
        }

        void step(Lines lines, int l) {
            int v = lines.tell(l, 1);
            int w = lines.tell(l, 2);
            switch (lines.kindOf(l)) {
                case Lines.SET:
                    become(v, w);
                    break;
                case Lines.COPY:
                    become(v, valueOf(w));
                    break;
                case Lines.ADD:
                    become(v, valueOf(v) + valueOf(w));
                    break;
                case Lines.TIMES:
                    become(v, valueOf(v) * valueOf(w));
                    break;
                case Lines.PRINT:
                    print(valueOf(v));
                    break;
                case Lines.MORE:
                    become(v, valueOf(w) > 0 ? valueOf(v) + 1 : valueOf(v));
                    break;
                default:
                    break;
            }
        }

        int valueOf(int v) {
            return Lines.isVariable(v) ? variables[v] : 0;
        }

        int printAt(int k) {
            return k >= 0 && k < manyPrints ? prints[k] : 0;
        }

        boolean printsAs(Machine other) {
            if (manyPrints != other.manyPrints) {
                return false;
            }
            for (int k = 0; k < manyPrints; k++) {
                if (prints[k] != other.prints[k]) {
                    return false;
                }
            }
            return true;
        }

        private void become(int v, int x) {
            if (Lines.isVariable(v)) {
                variables[v] = x;
            }
        }

        private void print(int x) {
            if (manyPrints < MOST_LINES) {
                prints[manyPrints++] = x;
            }
        }
    }

    /** THE KEPT LINES, THE MARK and THE HINT of THE ANSWER as it is when study() is called. */
    private static final class Marking {
        static final int DROP = 0, ADD = 1, MOVE = 2, SWAP = 3;

        private final Lines lines;
        private final Model model;
        private final Answer answer;

        /** By place: the rank of the LINE of the MODEL that is there, or for which it is taken; NONE. */
        private final int[] ranks = new int[MOST_LINES];
        /** By place: the places behind it, a bit each, with which it can't be KEPT. */
        private final int[] clashes = new int[MOST_LINES];
        private int keptPlaces;
        private int changes;
        private int hintChange;
        private int hintLine;
        private int hintPlace;

        Marking(Lines lines, Model model, Answer answer) {
            this.lines = lines;
            this.model = model;
            this.answer = answer;
        }

        void study() {
            findRanks();
            findClashes();
            chooseKept();
            countChanges();
            if (!findDrop() && !findSwap() && !findAdd() && !findMove()) {
                hintAt(NONE, NONE, NONE);
            }
        }

        boolean isKept(int place) {
            return answer.hasPlace(place) && (keptPlaces >> place & 1) != 0;
        }

        private void findRanks() {
            for (int place = 0; place < answer.length; place++) {
                int l = answer.lineAt(place);
                int mate = lines.mateOf(l);
                boolean taken = lines.roleOf(l) == Lines.WRONG && !answer.holds(mate);
                // A DECOY has no rank, nor has a WRONG LINE but by its PARTNER.
                ranks[place] = model.rankOf(taken ? mate : l);
            }
        }

        private void findClashes() {
            for (int place = 0; place < answer.length; place++) {
                int mask = 0;
                for (int later = place + 1; later < answer.length; later++) {
                    if (model.isAhead(ranks[later], ranks[place])) {
                        mask |= 1 << later;
                    }
                }
                clashes[place] = mask;
            }
        }

        private void chooseKept() {
            int free = 0;
            for (int place = 0; place < answer.length; place++) {
                free |= ranks[place] != NONE ? 1 << place : 0;
            }
            keptPlaces = 0;
            for (int place = 0; place < answer.length; place++) {
                int bit = 1 << place;
                if ((free & bit) == 0) {
                    continue;
                }
                int most = mostKept(clashes, place, free);
                int freeWith = free & ~bit & ~clashes[place];
                // Kept whenever some best choice has it: that is what prefers the first places.
                if (1 + mostKept(clashes, place + 1, freeWith) == most) {
                    keptPlaces |= bit;
                    free = freeWith;
                } else {
                    free &= ~bit;
                }
            }
        }

        /** How many of the free places from this one on can be KEPT together. */
        private static int mostKept(int[] clashes, int place, int free) {
            if (free == 0 || place >= clashes.length) {
                return 0;
            }
            int bit = 1 << place;
            int rest = free & ~bit;
            if ((free & bit) == 0) {
                return mostKept(clashes, place + 1, rest);
            }
            int with = 1 + mostKept(clashes, place + 1, rest & ~clashes[place]);
            if ((rest & clashes[place]) == 0) {
                return with;
            }
            return Math.max(with, mostKept(clashes, place + 1, rest));
        }

        /**
         * One DROP for each LINE without a rank, one SWAP for each WRONG LINE with one, and one ADD
         * or MOVE for each LINE of the MODEL that is not KEPT: as NEEDS is closed over its chains,
         * every other LINE finds a place among the KEPT ones.
         */
        private void countChanges() {
            int sum = model.length - Integer.bitCount(keptPlaces);
            for (int place = 0; place < answer.length; place++) {
                boolean ofModel = lines.roleOf(answer.lineAt(place)) == Lines.OF_MODEL;
                sum += ofModel ? 0 : 1;
            }
            changes = sum;
        }

        private void hintAt(int change, int l, int place) {
            hintChange = change;
            hintLine = l;
            hintPlace = place;
        }

        private boolean findDrop() {
            for (int place = 0; place < answer.length; place++) {
                if (ranks[place] == NONE) {
                    hintAt(DROP, answer.lineAt(place), place);
                    return true;
                }
            }
            return false;
        }

        private boolean findSwap() {
            for (int place = 0; place < answer.length; place++) {
                int l = answer.lineAt(place);
                if (lines.roleOf(l) == Lines.WRONG) {
                    hintAt(SWAP, l, place);
                    return true;
                }
            }
            return false;
        }

        private boolean findAdd() {
            for (int rank = 0; rank < model.length; rank++) {
                int l = model.lineOf(rank);
                if (!answer.holds(l)) {
                    hintAt(ADD, l, placeBehindKept(rank, NONE));
                    return true;
                }
            }
            return false;
        }

        private boolean findMove() {
            for (int place = 0; place < answer.length; place++) {
                if (!isKept(place)) {
                    hintAt(MOVE, answer.lineAt(place), placeBehindKept(ranks[place], place));
                    return true;
                }
            }
            return false;
        }

        /** The place for a LINE, told as if what is at the place `gone` had been taken out. */
        private int placeBehindKept(int rank, int gone) {
            int to = 0;
            int passed = 0;
            for (int place = 0; place < answer.length; place++) {
                if (place == gone) {
                    continue;
                }
                passed++;
                if (isKept(place) && model.isAhead(ranks[place], rank)) {
                    to = passed;
                }
            }
            return to;
        }
    }
}
