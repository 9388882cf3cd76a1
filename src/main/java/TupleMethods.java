import java.util.NoSuchElementException;

/**
 * A dispatcher by several arguments, as the document DOC.md tells it; its words in capitals are used here, too.
 *
 * <p>A CALL is a number with four bits for each PLACE. A PLACE that a FUNCTION does not have holds CLASS 0 in all
 * its CALLS and METHODS, so that every FUNCTION can be treated as one of three PLACES.
 */
public final class TupleMethods {
    /** There is none. */
    public static final int NONE = -1;

    private static final int AMBIGUOUS = -2;
    private static final int REFUSED = -2;
    private static final int TAKEN = -2;
    private static final int NO_ROOM = -2;
    private static final int NO_CALL = -3;

    private static final int MOST_CLASSES = 16;
    private static final int MOST_PARENTS = 3;
    private static final int MOST_FUNCTIONS = 4;
    private static final int MOST_PLACES = 3;
    private static final int MOST_METHODS = 12;
    private static final int MOST_KIND = 3;
    private static final int MOST_VALUE = 999;
    private static final int MOST_KEPT = 6;
    private static final int MOST_CALLS = 4096;

    /** The number of a METHOD that is only thought of: a FUNCTION that is full can be asked about one more, too. */
    private static final int ONE_MORE = MOST_METHODS;

    private final Classes classes = new Classes();
    private final Function[] functions = new Function[MOST_FUNCTIONS];
    private final Function trial = new Function();
    private int functionCount = 0;
    private int ruleNow = 0;
    private int hits = 0;
    private int misses = 0;

    /** The METHODS of the CHAIN that was laid last. */
    private final int[] links = new int[MOST_METHODS];
    private int linkCount = 0;

    /** The ANSWERS of all CALLS of one FUNCTION, and which one's they are (NONE: something has changed since). */
    private final int[] answers = new int[MOST_CALLS];
    private int answersOf = NONE;

    /** By CALL: whether it is marked or BELOW a marked one. */
    private final boolean[] covered = new boolean[MOST_CALLS];

    public TupleMethods() {
        for (int i = 0; i < MOST_FUNCTIONS; i++) {
            functions[i] = new Function();
        }
    }

    // ---- classes

    public int kind(int one, int two, int three) {
        if (classes.size >= MOST_CLASSES || !classes.canBeParents(one, two, three)) {
            return NONE;
        }
        int number = classes.add(one, two, three);
        if (number == REFUSED) {
            return REFUSED;
        }
        for (int i = 0; i < functionCount; i++) {
            functions[i].fitClass(number, classes);
        }
        answersOf = NONE;
        return number;
    }

    public boolean is(int one, int other) {
        return classes.has(one) && classes.has(other) && classes.isOne(one, other);
    }

    public int list(int kind, int k) {
        if (!classes.has(kind)) {
            return NONE;
        }
        int length = classes.lengths[kind];
        if (k == NONE) {
            return length;
        }
        return k >= 0 && k < length ? classes.lists[MOST_CLASSES * kind + k] : NONE;
    }

    public int meet(int one, int other, int k) {
        if (!classes.has(one) || !classes.has(other)) {
            return NONE;
        }
        int both = classes.thatAreBoth(one, other);
        int found = 0;
        for (int c = 0; c < classes.size; c++) {
            if ((classes.all[c] & both) == 1 << c) {
                if (found == k) {
                    return c;
                }
                found++;
            }
        }
        return k == NONE ? found : NONE;
    }

    // ---- functions, methods

    public int function(int places) {
        if (functionCount >= MOST_FUNCTIONS || places < 1 || places > MOST_PLACES) {
            return NONE;
        }
        functions[functionCount].places = places;
        functionCount++;
        return functionCount - 1;
    }

    public int method(int function, int of, int kind, int value) {
        if (!hasCall(function, of) || kind < 0 || kind > MOST_KIND || value < -MOST_VALUE || value > MOST_VALUE) {
            return NONE;
        }
        Function f = functions[function];
        int number = f.leastFree();
        if (number == NONE) {
            return NONE;
        }
        if (f.hasMethodFor(of)) {
            return TAKEN;
        }
        f.put(number, of, classes);
        f.kinds[number] = kind;
        f.values[number] = value;
        f.forget(number);
        answersOf = NONE;
        return number;
    }

    public int drop(int function, int method) {
        if (!hasMethod(function, method)) {
            return NONE;
        }
        Function f = functions[function];
        f.forget(method);
        f.remove(method);
        answersOf = NONE;
        return Integer.bitCount(f.used);
    }

    public int rule() {
        ruleNow = 1 - ruleNow;
        for (int i = 0; i < functionCount; i++) {
            functions[i].keptCount = 0;
        }
        answersOf = NONE;
        return ruleNow;
    }

    public int count(int what) {
        switch (what) {
            case 0:
                return classes.size;
            case 1:
                return functionCount;
            case 2:
                return ruleNow;
            case 3:
                return methodsOfAll();
            case 4:
                return hits;
            case 5:
                return misses;
            case 6:
                return keptOfAll();
            default:
                return NONE;
        }
    }

    public int of(int function, int what) {
        if (!hasFunction(function)) {
            return NONE;
        }
        Function f = functions[function];
        switch (what) {
            case 0:
                return f.places;
            case 1:
                return f.used;
            case 2:
                return callCount(f);
            case 3:
                return callsAnswered(function, NONE);
            case 4:
                return ambiguousCalls(f);
            case 5:
                return greatestMarked(f, false, NONE);
            case 6:
                return greatestMarked(f, true, NONE);
            case 7:
                return tableSize(function);
            case 8:
                return idleMethods(function);
            case 9:
                return f.keptCount;
            default:
                return NONE;
        }
    }

    public int at(int function, int method, int what) throws NoSuchElementException {
        if (!hasMethod(function, method)) {
            throw new NoSuchElementException("no such method");
        }
        Function f = functions[function];
        switch (what) {
            case 0:
                return f.targets[method];
            case 1:
                return f.kinds[method];
            case 2:
                return f.values[method];
            case 3:
                return callsAnswered(function, method);
            case 4:
                return callsTaken(f, method);
            default:
                throw new NoSuchElementException("nothing else is told of a method");
        }
    }

    // ---- calls

    public int call(int function, int call) {
        if (!hasCall(function, call)) {
            return NO_CALL;
        }
        Function f = functions[function];
        if (f.ask(call)) {
            hits++;
        } else {
            misses++;
        }
        // What was KEPT is not looked up: a METHOD or RULE that could have made it another one has dropped it.
        return firstOf(f, call, f.thatApply(call));
    }

    public int answer(int function, int call) {
        if (!hasCall(function, call)) {
            return NO_CALL;
        }
        Function f = functions[function];
        return firstOf(f, call, f.thatApply(call));
    }

    public int applicable(int function, int call) {
        return hasCall(function, call) ? functions[function].thatApply(call) : NONE;
    }

    public int chain(int function, int call, int k) {
        if (!hasCall(function, call)) {
            return NONE;
        }
        layChain(functions[function], call);
        if (k == NONE) {
            return linkCount;
        }
        return k >= 0 && k < linkCount ? links[k] : NONE;
    }

    public int broken(int function, int call) {
        return hasCall(function, call) ? Integer.bitCount(layChain(functions[function], call)) : NONE;
    }

    public int work(int function, int call) throws NoSuchElementException {
        if (!hasCall(function, call)) {
            throw new NoSuchElementException("no such call");
        }
        Function f = functions[function];
        layChain(f, call);
        if (linkCount == 0) {
            throw new NoSuchElementException("the chain has no method");
        }
        int result = 0;
        for (int i = linkCount - 1; i >= 0; i--) {
            result = f.workOut(links[i], result);
        }
        return result;
    }

    public int kept(int function, int k) {
        if (!hasFunction(function) || k < 0 || k >= functions[function].keptCount) {
            return NONE;
        }
        return functions[function].keptCalls[k];
    }

    // ---- clashes, gaps, tables

    public int clash(int function, int k) {
        return hasFunction(function) && k >= 0 ? greatestMarked(functions[function], false, k) : NONE;
    }

    public int gap(int function, int k) {
        return hasFunction(function) && k >= 0 ? greatestMarked(functions[function], true, k) : NONE;
    }

    public int fight(int function, int method, int other) {
        if (!hasMethod(function, method) || !hasMethod(function, other)) {
            return NONE;
        }
        Function f = functions[function];
        int both = 1 << method | 1 << other;
        int atMostBoth = f.atMostAllOf(both);
        // One of the two that is AT MOST the other one is AT MOST itself, too, and so among these.
        if ((atMostBoth & both) != 0) {
            return NONE;
        }
        int total = callCount(f);
        for (int i = 0, call = 0; i < total; i++, call = classes.callAfter(call)) {
            int set = f.thatApply(call);
            if ((set & both) == both && (set & atMostBoth) == 0) {
                return call;
            }
        }
        return NONE;
    }

    public int pole(int function, int place, int kind) {
        if (!hasFunction(function) || place < 0 || place >= functions[function].places || !classes.has(kind)) {
            return NONE;
        }
        fillAnswers(function);
        return leastAlike(functions[function], place, kind);
    }

    public int change(int function, int of) {
        if (!hasCall(function, of)) {
            return NONE;
        }
        Function f = functions[function];
        if (f.hasMethodFor(of)) {
            return TAKEN;
        }
        fillAnswers(function);
        trial.copyMethods(f);
        trial.put(ONE_MORE, of, classes);
        int changed = 0;
        int total = callCount(f);
        for (int i = 0, call = 0; i < total; i++, call = classes.callAfter(call)) {
            int set = trial.thatApply(call);
            if ((set >> ONE_MORE & 1) != 0 && firstOf(trial, call, set) != answers[call]) {
                changed++;
            }
        }
        return changed;
    }

    /**
     * One walk over the CALLS is enough: a CALL that another one is BELOW has the smaller number (PARENTS have smaller
     * numbers), so the least AMBIGUOUS one is a CLASH, the least one; and a METHOD for it changes nothing at smaller
     * numbers.
     */
    public int settle(int function) {
        if (!hasFunction(function)) {
            return NONE;
        }
        trial.copyMethods(functions[function]);
        int more = 0;
        int total = callCount(trial);
        for (int i = 0, call = 0; i < total; i++, call = classes.callAfter(call)) {
            if (trial.leastOf(trial.thatApply(call)) == AMBIGUOUS) {
                int number = trial.leastFree();
                if (number == NONE) {
                    return NO_ROOM;
                }
                trial.put(number, call, classes);
                more++;
            }
        }
        return more;
    }

    // ---- what there is

    private boolean hasFunction(int function) {
        return function >= 0 && function < functionCount;
    }

    private boolean hasMethod(int function, int method) {
        return hasFunction(function) && method >= 0 && method < MOST_METHODS
            && (functions[function].used >> method & 1) != 0;
    }

    private boolean hasCall(int function, int call) {
        if (!hasFunction(function) || call < 0 || call >= 1 << 4 * functions[function].places) {
            return false;
        }
        return classes.has(classAt(call, 0)) && classes.has(classAt(call, 1)) && classes.has(classAt(call, 2));
    }

    private static int classAt(int call, int place) {
        return call >> 4 * place & 15;
    }

    private int methodsOfAll() {
        int sum = 0;
        for (int i = 0; i < functionCount; i++) {
            sum += Integer.bitCount(functions[i].used);
        }
        return sum;
    }

    private int keptOfAll() {
        int sum = 0;
        for (int i = 0; i < functionCount; i++) {
            sum += functions[i].keptCount;
        }
        return sum;
    }

    // ---- first methods, chains

    /** The FIRST of some METHODS, all APPLICABLE to a CALL, or NONE or AMBIGUOUS. */
    private int firstOf(Function f, int call, int set) {
        return ruleNow == 0 ? f.leastOf(set) : foremostOf(f, call, set);
    }

    /** The FIRST by RULE 1. */
    private int foremostOf(Function f, int call, int set) {
        int best = NONE;
        for (int m = 0; m <= ONE_MORE; m++) {
            if ((set >> m & 1) != 0 && (best == NONE || comesAhead(call, f.targets[m], f.targets[best]))) {
                best = m;
            }
        }
        return best;
    }

    /** Whether a METHOD for the one comes ahead of a METHOD for the other, both APPLICABLE to a CALL. */
    private boolean comesAhead(int call, int one, int other) {
        for (int place = 0; place < MOST_PLACES; place++) {
            if (classAt(one, place) != classAt(other, place)) {
                int row = MOST_CLASSES * classAt(call, place);
                return classes.ranks[row + classAt(one, place)] < classes.ranks[row + classAt(other, place)];
            }
        }
        return false;
    }

    /** Lays the CHAIN of a CALL into the links; what is left behind it, as bits. */
    private int layChain(Function f, int call) {
        int rest = f.thatApply(call);
        linkCount = 0;
        for (int i = 0; i < MOST_METHODS; i++) {
            int next = firstOf(f, call, rest);
            if (next < 0) {
                break;
            }
            links[i] = next;
            linkCount++;
            rest &= ~(1 << next);
        }
        return rest;
    }

    // ---- all calls of a function

    private int callCount(Function f) {
        int product = 1;
        for (int place = 0; place < f.places; place++) {
            product *= classes.size;
        }
        return product;
    }

    private void fillAnswers(int function) {
        if (answersOf == function) {
            return;
        }
        Function f = functions[function];
        int total = callCount(f);
        for (int i = 0, call = 0; i < total; i++, call = classes.callAfter(call)) {
            answers[call] = firstOf(f, call, f.thatApply(call));
        }
        answersOf = function;
    }

    private int callsAnswered(int function, int answer) {
        fillAnswers(function);
        int found = 0;
        int total = callCount(functions[function]);
        for (int i = 0, call = 0; i < total; i++, call = classes.callAfter(call)) {
            if (answers[call] == answer) {
                found++;
            }
        }
        return found;
    }

    private int callsTaken(Function f, int method) {
        int found = 0;
        int total = callCount(f);
        for (int i = 0, call = 0; i < total; i++, call = classes.callAfter(call)) {
            found += f.thatApply(call) >> method & 1;
        }
        return found;
    }

    private int ambiguousCalls(Function f) {
        int found = 0;
        int total = callCount(f);
        for (int i = 0, call = 0; i < total; i++, call = classes.callAfter(call)) {
            if (f.leastOf(f.thatApply(call)) == AMBIGUOUS) {
                found++;
            }
        }
        return found;
    }

    private int idleMethods(int function) {
        fillAnswers(function);
        Function f = functions[function];
        int idle = f.used;
        int total = callCount(f);
        for (int i = 0, call = 0; i < total; i++, call = classes.callAfter(call)) {
            if (answers[call] >= 0) {
                idle &= ~(1 << answers[call]);
            }
        }
        return idle;
    }

    /**
     * The k-th, rising, of the marked CALLS that are BELOW no other marked one, or how many there are (k NONE).
     * Marked are those without an ANSWER (for GAPS) or the AMBIGUOUS ones by RULE 0 (for CLASHES).
     */
    private int greatestMarked(Function f, boolean forGaps, int k) {
        int found = 0;
        int total = callCount(f);
        for (int i = 0, call = 0; i < total; i++, call = classes.callAfter(call)) {
            boolean below = found > 0 && isBelowCovered(call);
            boolean marked = f.leastOf(f.thatApply(call)) == (forGaps ? NONE : AMBIGUOUS);
            covered[call] = below || marked;
            if (marked && !below) {
                if (found == k) {
                    return call;
                }
                found++;
            }
        }
        return k == NONE ? found : NONE;
    }

    /** Looks one PARENT up at each PLACE only: what lies farther up has covered that one already. */
    private boolean isBelowCovered(int call) {
        for (int place = 0; place < MOST_PLACES; place++) {
            int c = classAt(call, place);
            for (int i = 0; i < classes.parentCounts[c]; i++) {
                int parent = classes.parents[MOST_PARENTS * c + i];
                if (covered[call - (c - parent << 4 * place)]) {
                    return true;
                }
            }
        }
        return false;
    }

    // ---- tables

    private int tableSize(int function) {
        fillAnswers(function);
        Function f = functions[function];
        int product = 1;
        for (int place = 0; place < f.places; place++) {
            int poles = 0;
            for (int c = 0; c < classes.size; c++) {
                if (leastAlike(f, place, c) == c) {
                    poles++;
                }
            }
            product *= poles;
        }
        return product;
    }

    /** The POLE of a CLASS, by the ANSWERS that have been filled for the FUNCTION. */
    private int leastAlike(Function f, int place, int kind) {
        for (int c = 0; c < kind; c++) {
            if (areAlike(f, place, c, kind)) {
                return c;
            }
        }
        return kind;
    }

    private boolean areAlike(Function f, int place, int one, int other) {
        int near = place == 0 ? 1 : 0;
        int far = place == 2 ? 1 : 2;
        int nearEnd = near < f.places ? classes.size : 1;
        int farEnd = far < f.places ? classes.size : 1;
        for (int i = 0; i < farEnd; i++) {
            for (int j = 0; j < nearEnd; j++) {
                int rest = (i << 4 * far) + (j << 4 * near);
                if (answers[rest + (one << 4 * place)] != answers[rest + (other << 4 * place)]) {
                    return false;
                }
            }
        }
        return true;
    }

    /** The CLASSES. A PARENT is there ahead of its children, so its number is smaller than theirs. */
    private static final class Classes {
        private int size = 1;
        private final int[] parents = new int[MOST_CLASSES * MOST_PARENTS];
        private final int[] parentCounts = new int[MOST_CLASSES];
        /** By CLASS: all that it IS, as bits. */
        private final int[] all = new int[MOST_CLASSES];
        /** The LISTS, a row of sixteen for each CLASS. */
        private final int[] lists = new int[MOST_CLASSES * MOST_CLASSES];
        private final int[] lengths = new int[MOST_CLASSES];
        /** In the row of each CLASS: where another one stands in its LIST. */
        private final int[] ranks = new int[MOST_CLASSES * MOST_CLASSES];

        /** The rows that are being MERGED; each one's begin moves on as its first ones go out. */
        private final int[] rows = new int[(MOST_PARENTS + 1) * MOST_CLASSES];
        private final int[] begins = new int[MOST_PARENTS + 1];
        private final int[] ends = new int[MOST_PARENTS + 1];

        Classes() {
            all[0] = 1;
            lengths[0] = 1;
        }

        boolean has(int kind) {
            return kind >= 0 && kind < size;
        }

        boolean isOne(int one, int other) {
            return (all[one] >> other & 1) != 0;
        }

        int thatAreBoth(int one, int other) {
            int both = 0;
            for (int c = 0; c < size; c++) {
                if (isOne(c, one) && isOne(c, other)) {
                    both |= 1 << c;
                }
            }
            return both;
        }

        /** The CALL of the next greater number, of three PLACES. */
        int callAfter(int call) {
            if (classAt(call, 0) + 1 < size) {
                return call + 1;
            }
            if (classAt(call, 1) + 1 < size) {
                return (call | 15) + 1;
            }
            return (call | 255) + 1;
        }

        boolean canBeParents(int one, int two, int three) {
            if (!has(one)) {
                return false;
            }
            if (two == NONE) {
                return three == NONE;
            }
            if (!has(two) || two == one) {
                return false;
            }
            return three == NONE || has(three) && three != one && three != two;
        }

        /** The number of the CLASS that comes, or REFUSED; there is room for it, and its PARENTS can be. */
        int add(int one, int two, int three) {
            int number = size;
            parents[MOST_PARENTS * number] = one;
            parents[MOST_PARENTS * number + 1] = two;
            parents[MOST_PARENTS * number + 2] = three;
            int count = two == NONE ? 1 : three == NONE ? 2 : 3;
            parentCounts[number] = count;
            layRows(number, count);
            if (!mergeRows(number, count + 1)) {
                return REFUSED;
            }
            for (int i = 0; i < lengths[number]; i++) {
                int c = lists[MOST_CLASSES * number + i];
                all[number] |= 1 << c;
                ranks[MOST_CLASSES * number + c] = i;
            }
            size++;
            return number;
        }

        /** The LISTS of the PARENTS, and behind them the row of the PARENTS. */
        private void layRows(int number, int count) {
            for (int i = 0; i < count; i++) {
                int parent = parents[MOST_PARENTS * number + i];
                System.arraycopy(lists, MOST_CLASSES * parent, rows, MOST_CLASSES * i, lengths[parent]);
                begins[i] = 0;
                ends[i] = lengths[parent];
                rows[MOST_CLASSES * count + i] = parent;
            }
            begins[count] = 0;
            ends[count] = count;
        }

        /** Writes the LIST of a CLASS; whether there is one, with nothing left in the rows. */
        private boolean mergeRows(int number, int rowCount) {
            int length = 1;
            lists[MOST_CLASSES * number] = number;
            while (length < MOST_CLASSES) {
                int next = nextOfRows(rowCount);
                if (next == NONE) {
                    break;
                }
                takeOut(next, rowCount);
                lists[MOST_CLASSES * number + length] = next;
                length++;
            }
            lengths[number] = length;
            for (int i = 0; i < rowCount; i++) {
                if (begins[i] < ends[i]) {
                    return false;
                }
            }
            return true;
        }

        private int nextOfRows(int rowCount) {
            for (int i = 0; i < rowCount; i++) {
                if (begins[i] < ends[i]) {
                    int c = rows[MOST_CLASSES * i + begins[i]];
                    if (!standsBehindBegin(c, rowCount)) {
                        return c;
                    }
                }
            }
            return NONE;
        }

        private boolean standsBehindBegin(int c, int rowCount) {
            for (int i = 0; i < rowCount; i++) {
                for (int j = begins[i] + 1; j < ends[i]; j++) {
                    if (rows[MOST_CLASSES * i + j] == c) {
                        return true;
                    }
                }
            }
            return false;
        }

        private void takeOut(int c, int rowCount) {
            for (int i = 0; i < rowCount; i++) {
                if (begins[i] < ends[i] && rows[MOST_CLASSES * i + begins[i]] == c) {
                    begins[i]++;
                }
            }
        }
    }

    /** A FUNCTION: its METHODS, with room for ONE_MORE, and the CALLS that are KEPT. */
    private static final class Function {
        private int places = 0;
        /** The METHODS that there are, as bits. */
        private int used = 0;
        private final int[] targets = new int[ONE_MORE + 1];
        private final int[] kinds = new int[MOST_METHODS];
        private final int[] values = new int[MOST_METHODS];
        /** By METHOD: those that it is AT MOST, as bits. */
        private final int[] above = new int[ONE_MORE + 1];
        /** In the row of each PLACE, by CLASS: the METHODS whose CLASS there it IS, as bits. */
        private final int[] fitting = new int[MOST_PLACES * MOST_CLASSES];
        private final int[] keptCalls = new int[MOST_KEPT];
        private int keptCount = 0;

        /** The METHODS that are APPLICABLE to a CALL, as bits. */
        int thatApply(int call) {
            return fitting[classAt(call, 0)]
                & fitting[MOST_CLASSES + classAt(call, 1)]
                & fitting[2 * MOST_CLASSES + classAt(call, 2)];
        }

        /** The FIRST by RULE 0. */
        int leastOf(int set) {
            if (set == 0) {
                return NONE;
            }
            for (int m = 0; m <= ONE_MORE; m++) {
                if ((set >> m & 1) != 0 && (set & ~above[m]) == 0) {
                    return m;
                }
            }
            return AMBIGUOUS;
        }

        int atMostAllOf(int set) {
            int found = 0;
            for (int m = 0; m < MOST_METHODS; m++) {
                if ((used >> m & 1) != 0 && (set & ~above[m]) == 0) {
                    found |= 1 << m;
                }
            }
            return found;
        }

        boolean hasMethodFor(int target) {
            for (int m = 0; m < MOST_METHODS; m++) {
                if ((used >> m & 1) != 0 && targets[m] == target) {
                    return true;
                }
            }
            return false;
        }

        int leastFree() {
            for (int m = 0; m < MOST_METHODS; m++) {
                if ((used >> m & 1) == 0) {
                    return m;
                }
            }
            return NONE;
        }

        void put(int number, int target, Classes classes) {
            used |= 1 << number;
            targets[number] = target;
            for (int place = 0; place < MOST_PLACES; place++) {
                for (int c = 0; c < classes.size; c++) {
                    if (classes.isOne(c, classAt(target, place))) {
                        fitting[MOST_CLASSES * place + c] |= 1 << number;
                    }
                }
            }
            orderMethods();
        }

        void remove(int number) {
            used &= ~(1 << number);
            for (int i = 0; i < fitting.length; i++) {
                fitting[i] &= ~(1 << number);
            }
            orderMethods();
        }

        /** A METHOD is AT MOST just those that are APPLICABLE to the CALL that it is for. */
        private void orderMethods() {
            for (int m = 0; m <= ONE_MORE; m++) {
                above[m] = (used >> m & 1) != 0 ? thatApply(targets[m]) : 0;
            }
        }

        /** A CLASS has come. */
        void fitClass(int number, Classes classes) {
            for (int place = 0; place < MOST_PLACES; place++) {
                int set = 0;
                for (int m = 0; m < MOST_METHODS; m++) {
                    if ((used >> m & 1) != 0 && classes.isOne(number, classAt(targets[m], place))) {
                        set |= 1 << m;
                    }
                }
                fitting[MOST_CLASSES * place + number] = set;
            }
        }

        /** Takes over the METHODS of another FUNCTION, as far as ANSWERS need them. */
        void copyMethods(Function other) {
            places = other.places;
            used = other.used;
            System.arraycopy(other.targets, 0, targets, 0, targets.length);
            System.arraycopy(other.above, 0, above, 0, above.length);
            System.arraycopy(other.fitting, 0, fitting, 0, fitting.length);
        }

        int workOut(int method, int next) {
            int value = values[method];
            switch (kinds[method]) {
                case 1:
                    return value + next;
                case 2:
                    return value * next;
                case 3:
                    return Math.max(value, next);
                default:
                    return value;
            }
        }

        /** The CALL is the latest one KEPT; whether it was KEPT before. */
        boolean ask(int call) {
            for (int i = 0; i < keptCount; i++) {
                if (keptCalls[i] == call) {
                    removeKept(i);
                    addKept(call);
                    return true;
                }
            }
            if (keptCount == MOST_KEPT) {
                removeKept(0);
            }
            addKept(call);
            return false;
        }

        private void removeKept(int index) {
            for (int i = index; i < keptCount - 1; i++) {
                keptCalls[i] = keptCalls[i + 1];
            }
            keptCount--;
        }

        private void addKept(int call) {
            keptCalls[keptCount] = call;
            keptCount++;
        }

        /** Drops the KEPT CALLS to which a METHOD, while it is there, is APPLICABLE. */
        void forget(int method) {
            int left = 0;
            for (int i = 0; i < keptCount; i++) {
                if ((thatApply(keptCalls[i]) >> method & 1) == 0) {
                    keptCalls[left] = keptCalls[i];
                    left++;
                }
            }
            keptCount = left;
        }
    }
}
