import java.util.NoSuchElementException;

/** Runs of calls for each promise of the document, with answers worked out by hand. */
public final class PromiseRuns {
    private static final int NONE = TupleMethods.NONE;
    private static final int LEAST = Integer.MIN_VALUE;
    private static final int MOST = Integer.MAX_VALUE;

    private static int wrong = 0;
    private static String promise = "";

    private static void due(String call, int got, int want) {
        if (got != want) {
            wrong++;
            System.out.println(promise + ": " + call + " answered " + got + ", due is " + want);
        }
    }

    private static void due(String call, boolean got, boolean want) {
        due(call, got ? 1 : 0, want ? 1 : 0);
    }

    private static void dueNoSuchAt(TupleMethods x, int function, int method, int what) {
        String call = "at(" + function + ", " + method + ", " + what + ")";
        try {
            int got = x.at(function, method, what);
            wrong++;
            System.out.println(promise + ": " + call + " answered " + got + ", due is NoSuchElementException");
        } catch (NoSuchElementException e) {
            return;
        }
    }

    private static void dueNoSuchWork(TupleMethods x, int function, int call) {
        try {
            int got = x.work(function, call);
            wrong++;
            System.out.println(promise + ": work(" + function + ", " + call + ") answered " + got
                + ", due is NoSuchElementException");
        } catch (NoSuchElementException e) {
            return;
        }
    }

    public static void main(String[] args) {
        newObject();
        kind();
        kindRefused();
        is();
        list();
        meet();
        function();
        method();
        methodWrong();
        drop();
        rule();
        count();
        of();
        ofPlaces();
        at();
        callAndKept();
        keptDropped();
        answer();
        applicable();
        chain();
        chainByLists();
        broken();
        work();
        workWraps();
        clash();
        clashOfThree();
        gap();
        fight();
        pole();
        change();
        changeOfFull();
        settle();
        settleRoom();
        System.out.println(wrong == 0 ? "all answers are as due" : wrong + " answers are not as due");
        if (wrong != 0) {
            System.exit(1);
        }
    }

    /** CLASSES 1 and 2 of 0, and 3 of both, 1 first. */
    private static TupleMethods diamond() {
        TupleMethods x = new TupleMethods();
        x.kind(0, NONE, NONE);
        x.kind(0, NONE, NONE);
        x.kind(1, 2, NONE);
        return x;
    }

    /**
     * The diamond with a FUNCTION of two PLACES, METHOD 0 for (1, 0) and 1 for (0, 2). Of the 16 CALLS 8 take METHOD
     * 0 (1 or 3 at PLACE 0), 8 take METHOD 1 (2 or 3 at PLACE 1), 4 both, 4 none.
     */
    private static TupleMethods square() {
        TupleMethods x = diamond();
        x.function(2);
        x.method(0, 1, 1, 5);
        x.method(0, 32, 0, 7);
        return x;
    }

    /** CLASSES 0 to n - 1, each with the one before it as PARENT. */
    private static TupleMethods line(int n) {
        TupleMethods x = new TupleMethods();
        for (int c = 1; c < n; c++) {
            x.kind(c - 1, NONE, NONE);
        }
        return x;
    }

    private static void newObject() {
        promise = "1 a new object";
        TupleMethods x = new TupleMethods();
        due("NONE", NONE, -1);
        int[] counts = {1, 0, 0, 0, 0, 0, 0};
        for (int what = 0; what < counts.length; what++) {
            due("count(" + what + ")", x.count(what), counts[what]);
        }
        due("is(0, 0)", x.is(0, 0), true);
        due("list(0, NONE)", x.list(0, NONE), 1);
        due("list(0, 0)", x.list(0, 0), 0);
        due("of(0, 0)", x.of(0, 0), NONE);
        due("answer(0, 0)", x.answer(0, 0), -3);
        TupleMethods other = new TupleMethods();
        x.kind(0, NONE, NONE);
        x.function(1);
        due("count(0) of another object", other.count(0), 1);
        due("count(1) of another object", other.count(1), 0);
    }

    private static void kind() {
        promise = "2 kind";
        TupleMethods x = new TupleMethods();
        due("kind(0, NONE, NONE)", x.kind(0, NONE, NONE), 1);
        due("kind(0, NONE, NONE)", x.kind(0, NONE, NONE), 2);
        due("kind(1, 2, NONE)", x.kind(1, 2, NONE), 3);
        int[][] none = {{NONE, NONE, NONE}, {NONE, 0, 1}, {0, NONE, 1}, {4, NONE, NONE}, {-2, NONE, NONE},
            {1, 4, NONE}, {1, -2, NONE}, {1, 2, 4}, {1, 2, -2}, {1, 1, NONE}, {1, 2, 1}, {1, 2, 2}, {2, 1, 1},
            {LEAST, NONE, NONE}, {MOST, NONE, NONE}, {1, MOST, NONE}, {1, LEAST, NONE}, {1, 2, MOST}, {1, 2, LEAST},
            {1, NONE, 16}, {1, NONE, -2}};
        for (int[] p : none) {
            due("kind(" + p[0] + ", " + p[1] + ", " + p[2] + ")", x.kind(p[0], p[1], p[2]), NONE);
        }
        due("count(0)", x.count(0), 4);
        due("kind(3, 1, 2)", x.kind(3, 1, 2), 4);
        for (int c = 5; c < 16; c++) {
            due("kind(0, NONE, NONE)", x.kind(0, NONE, NONE), c);
        }
        due("kind(0, NONE, NONE) of 16", x.kind(0, NONE, NONE), NONE);
        due("kind(0, 1, NONE) of 16", x.kind(0, 1, NONE), NONE);
        due("count(0)", x.count(0), 16);
    }

    private static void kindRefused() {
        promise = "2 kind, refused";
        TupleMethods x = diamond();
        due("kind(0, 1, NONE)", x.kind(0, 1, NONE), -2);
        due("kind(1, 3, NONE)", x.kind(1, 3, NONE), -2);
        due("kind(1, 2, 3)", x.kind(1, 2, 3), -2);
        due("kind(2, 1, NONE)", x.kind(2, 1, NONE), 4);
        due("kind(3, 4, NONE)", x.kind(3, 4, NONE), -2);
        due("count(0)", x.count(0), 5);
        due("list(5, NONE)", x.list(5, NONE), NONE);
        due("kind(3, 1, NONE)", x.kind(3, 1, NONE), 5);
        due("list(5, NONE)", x.list(5, NONE), 5);
    }

    private static void is() {
        promise = "3 is";
        TupleMethods x = diamond();
        boolean[][] table = {{true, false, false, false}, {true, true, false, false}, {true, false, true, false},
            {true, true, true, true}};
        for (int i = 0; i < 4; i++) {
            for (int j = 0; j < 4; j++) {
                due("is(" + i + ", " + j + ")", x.is(i, j), table[i][j]);
            }
        }
        int[] odd = {NONE, 4, 16, 32, LEAST, MOST};
        for (int c : odd) {
            due("is(0, " + c + ")", x.is(0, c), false);
            due("is(" + c + ", 0)", x.is(c, 0), false);
            due("is(" + c + ", " + c + ")", x.is(c, c), false);
        }
    }

    private static void list() {
        promise = "4 list";
        TupleMethods x = new TupleMethods();
        for (int c = 1; c <= 5; c++) {
            x.kind(0, NONE, NONE);
        }
        due("kind(1, 2, 3)", x.kind(1, 2, 3), 6);
        due("kind(4, 2, 5)", x.kind(4, 2, 5), 7);
        due("kind(4, 1, NONE)", x.kind(4, 1, NONE), 8);
        due("kind(6, 7, 8)", x.kind(6, 7, 8), 9);
        dueList(x, 0, 0);
        dueList(x, 6, 6, 1, 2, 3, 0);
        dueList(x, 7, 7, 4, 2, 5, 0);
        dueList(x, 8, 8, 4, 1, 0);
        dueList(x, 9, 9, 6, 7, 8, 4, 1, 2, 3, 5, 0);
        int[] odd = {-2, 10, 16, LEAST, MOST};
        for (int k : odd) {
            due("list(9, " + k + ")", x.list(9, k), NONE);
            due("list(" + k + ", 0)", x.list(k, 0), NONE);
            due("list(" + k + ", NONE)", x.list(k, NONE), NONE);
        }
        due("list(NONE, NONE)", x.list(NONE, NONE), NONE);
        TupleMethods long16 = line(16);
        due("list(15, NONE) of a line", long16.list(15, NONE), 16);
        for (int k = 0; k < 16; k++) {
            due("list(15, " + k + ") of a line", long16.list(15, k), 15 - k);
        }
    }

    private static void dueList(TupleMethods x, int kind, int... row) {
        due("list(" + kind + ", NONE)", x.list(kind, NONE), row.length);
        for (int k = 0; k < row.length; k++) {
            due("list(" + kind + ", " + k + ")", x.list(kind, k), row[k]);
        }
        due("list(" + kind + ", " + row.length + ")", x.list(kind, row.length), NONE);
    }

    private static void meet() {
        promise = "5 meet";
        TupleMethods x = diamond();
        x.kind(0, NONE, NONE);
        x.kind(2, 1, NONE);
        x.kind(3, NONE, NONE);
        due("meet(1, 2, NONE)", x.meet(1, 2, NONE), 2);
        due("meet(2, 1, 0)", x.meet(2, 1, 0), 3);
        due("meet(1, 2, 1)", x.meet(1, 2, 1), 5);
        due("meet(1, 2, 2)", x.meet(1, 2, 2), NONE);
        due("meet(1, 2, -2)", x.meet(1, 2, -2), NONE);
        due("meet(0, 0, NONE)", x.meet(0, 0, NONE), 1);
        due("meet(1, 1, 0)", x.meet(1, 1, 0), 1);
        due("meet(3, 1, NONE)", x.meet(3, 1, NONE), 1);
        due("meet(1, 3, 0)", x.meet(1, 3, 0), 3);
        due("meet(4, 1, NONE)", x.meet(4, 1, NONE), 0);
        due("meet(4, 1, 0)", x.meet(4, 1, 0), NONE);
        due("meet(6, 5, NONE)", x.meet(6, 5, NONE), 0);
        int[] odd = {NONE, 7, 16, LEAST, MOST};
        for (int c : odd) {
            due("meet(" + c + ", 0, NONE)", x.meet(c, 0, NONE), NONE);
            due("meet(0, " + c + ", NONE)", x.meet(0, c, NONE), NONE);
            due("meet(0, " + c + ", 0)", x.meet(0, c, 0), NONE);
        }
        due("meet(1, 2, MOST)", x.meet(1, 2, MOST), NONE);
        due("meet(1, 2, LEAST)", x.meet(1, 2, LEAST), NONE);
    }

    private static void function() {
        promise = "6 function";
        TupleMethods x = new TupleMethods();
        int[] odd = {0, 4, NONE, LEAST, MOST};
        for (int places : odd) {
            due("function(" + places + ")", x.function(places), NONE);
        }
        due("count(1)", x.count(1), 0);
        int[] places = {3, 1, 2, 1};
        for (int f = 0; f < 4; f++) {
            due("function(" + places[f] + ")", x.function(places[f]), f);
            due("of(" + f + ", 0)", x.of(f, 0), places[f]);
        }
        due("function(1) of 4", x.function(1), NONE);
        due("count(1)", x.count(1), 4);
        due("of(0, 0)", x.of(0, 0), 3);
    }

    private static void method() {
        promise = "7 method";
        TupleMethods x = line(16);
        x.function(1);
        x.function(3);
        for (int m = 0; m < 12; m++) {
            due("method(0, " + m + ", 0, 0)", x.method(0, m, 0, 0), m);
        }
        due("method(0, 12, 0, 0) of 12", x.method(0, 12, 0, 0), NONE);
        due("method(0, 3, 0, 0) of 12", x.method(0, 3, 0, 0), NONE);
        due("drop(0, 7)", x.drop(0, 7), 11);
        due("drop(0, 4)", x.drop(0, 4), 10);
        due("method(0, 3, 0, 0)", x.method(0, 3, 0, 0), -2);
        due("method(0, 15, 3, -999)", x.method(0, 15, 3, -999), 4);
        due("at(0, 4, 0)", x.at(0, 4, 0), 15);
        due("at(0, 4, 1)", x.at(0, 4, 1), 3);
        due("at(0, 4, 2)", x.at(0, 4, 2), -999);
        due("method(0, 4, 0, 999)", x.method(0, 4, 0, 999), 7);
        due("at(0, 7, 2)", x.at(0, 7, 2), 999);
        due("of(0, 1)", x.of(0, 1), 4095);
        due("method(1, 4095, 2, 1)", x.method(1, 4095, 2, 1), 0);
        due("method(1, 4095, 2, 1)", x.method(1, 4095, 2, 1), -2);
        due("method(1, 0, 2, 1)", x.method(1, 0, 2, 1), 1);
        due("at(1, 0, 0)", x.at(1, 0, 0), 4095);
    }

    private static void methodWrong() {
        promise = "7 method, wrong";
        TupleMethods x = diamond();
        x.function(1);
        x.function(2);
        x.function(3);
        int[][] none = {{NONE, 0, 0, 0}, {3, 0, 0, 0}, {4, 0, 0, 0}, {MOST, 0, 0, 0}, {LEAST, 0, 0, 0},
            {0, NONE, 0, 0}, {0, 4, 0, 0}, {0, 16, 0, 0}, {0, MOST, 0, 0}, {0, LEAST, 0, 0}, {0, 256, 0, 0},
            {1, 4, 0, 0}, {1, 64, 0, 0}, {1, 256, 0, 0}, {1, -16, 0, 0}, {1, 15, 0, 0},
            {2, 1024, 0, 0}, {2, 4096, 0, 0}, {2, 64, 0, 0}, {2, 4, 0, 0},
            {0, 0, NONE, 0}, {0, 0, 4, 0}, {0, 0, MOST, 0}, {0, 0, LEAST, 0},
            {0, 0, 0, 1000}, {0, 0, 0, -1000}, {0, 0, 0, MOST}, {0, 0, 0, LEAST}};
        for (int[] a : none) {
            due("method(" + a[0] + ", " + a[1] + ", " + a[2] + ", " + a[3] + ")", x.method(a[0], a[1], a[2], a[3]),
                NONE);
        }
        due("count(3)", x.count(3), 0);
        due("method(0, 3, 0, 0)", x.method(0, 3, 0, 0), 0);
        due("method(0, 3, 4, 0)", x.method(0, 3, 4, 0), NONE);
        due("method(0, 3, 0, 1000)", x.method(0, 3, 0, 1000), NONE);
        due("method(1, 51, 0, 0)", x.method(1, 51, 0, 0), 0);
        due("method(2, 819, 0, 0)", x.method(2, 819, 0, 0), 0);
    }

    private static void drop() {
        promise = "8 drop";
        TupleMethods x = square();
        int[] odd = {NONE, 2, 11, 12, 13, 31, 32, 33, LEAST, MOST};
        for (int n : odd) {
            due("drop(0, " + n + ")", x.drop(0, n), NONE);
            due("drop(" + n + ", 0)", x.drop(n, 0), NONE);
        }
        due("drop(1, 0)", x.drop(1, 0), NONE);
        due("drop(0, 0)", x.drop(0, 0), 1);
        due("drop(0, 0) again", x.drop(0, 0), NONE);
        due("of(0, 1)", x.of(0, 1), 2);
        due("answer(0, 33)", x.answer(0, 33), 1);
        due("applicable(0, 1)", x.applicable(0, 1), 0);
        due("drop(0, 1)", x.drop(0, 1), 0);
        due("answer(0, 33)", x.answer(0, 33), NONE);
        due("method(0, 33, 0, 0)", x.method(0, 33, 0, 0), 0);
        due("answer(0, 51)", x.answer(0, 51), 0);
    }

    private static void rule() {
        promise = "9 rule";
        TupleMethods x = square();
        due("answer(0, 33)", x.answer(0, 33), -2);
        due("rule()", x.rule(), 1);
        due("count(2)", x.count(2), 1);
        due("answer(0, 33)", x.answer(0, 33), 0);
        due("answer(0, 34)", x.answer(0, 34), 1);
        x.method(0, 2, 0, 0);
        due("answer(0, 35), 1 ahead of 2 in the list of 3", x.answer(0, 35), 0);
        due("kind(2, 1, NONE)", x.kind(2, 1, NONE), 4);
        due("answer(0, 36), 2 ahead of 1 in the list of 4", x.answer(0, 36), 2);
        due("rule()", x.rule(), 0);
        due("count(2)", x.count(2), 0);
        due("answer(0, 36)", x.answer(0, 36), -2);
    }

    private static void count() {
        promise = "10 count";
        TupleMethods x = square();
        x.function(1);
        x.method(1, 0, 0, 0);
        x.call(0, 0);
        x.call(0, 0);
        x.call(0, 1);
        x.call(1, 1);
        x.call(1, 1);
        x.call(1, 1);
        int[] counts = {4, 2, 0, 3, 3, 3, 3};
        for (int what = 0; what < counts.length; what++) {
            due("count(" + what + ")", x.count(what), counts[what]);
        }
        x.rule();
        x.drop(0, 0);
        int[] later = {4, 2, 1, 2, 3, 3, 0};
        for (int what = 0; what < later.length; what++) {
            due("count(" + what + ")", x.count(what), later[what]);
        }
        int[] odd = {NONE, 7, LEAST, MOST};
        for (int what : odd) {
            due("count(" + what + ")", x.count(what), NONE);
        }
    }

    private static void of() {
        promise = "11 of";
        TupleMethods x = square();
        x.call(0, 33);
        dueOf(x, 0, 2, 3, 16, 4, 4, 1, 1, 4, 0, 1);
        x.rule();
        dueOf(x, 0, 2, 3, 16, 4, 4, 1, 1, 4, 0, 0);
        due("drop(0, 0)", x.drop(0, 0), 1);
        dueOf(x, 0, 2, 2, 16, 8, 0, 0, 1, 2, 0, 0);
        due("method(0, 0, 0, 0)", x.method(0, 0, 0, 0), 0);
        dueOf(x, 0, 2, 3, 16, 0, 0, 0, 0, 2, 0, 0);
        due("kind(0, NONE, NONE)", x.kind(0, NONE, NONE), 4);
        dueOf(x, 0, 2, 3, 25, 0, 0, 0, 0, 2, 0, 0);
        int[] odd = {NONE, 10, LEAST, MOST};
        for (int n : odd) {
            due("of(0, " + n + ")", x.of(0, n), NONE);
            due("of(" + n + ", 0)", x.of(n, 0), NONE);
        }
        due("of(1, 0)", x.of(1, 0), NONE);
        due("of(4, 0)", x.of(4, 0), NONE);
    }

    private static void dueOf(TupleMethods x, int function, int... row) {
        for (int what = 0; what < row.length; what++) {
            due("of(" + function + ", " + what + ")", x.of(function, what), row[what]);
        }
    }

    private static void ofPlaces() {
        promise = "11 of, of 1 and 3 places";
        TupleMethods x = line(16);
        x.function(1);
        x.function(3);
        dueOf(x, 0, 1, 0, 16, 16, 0, 0, 1, 1, 0, 0);
        dueOf(x, 1, 3, 0, 4096, 4096, 0, 0, 1, 1, 0, 0);
        x.method(1, 0x321, 0, 0);
        dueOf(x, 1, 3, 1, 4096, 4096 - 15 * 14 * 13, 0, 0, 1, 8, 0, 0);
        x.method(1, 0x123, 0, 0);
        dueOf(x, 1, 3, 3, 4096, 4096 - 15 * 14 * 13 - 13 * 14 * 15 + 13 * 14 * 13, 13 * 14 * 13, 1, 1, 18, 0, 0);
        due("clash(1, 0)", x.clash(1, 0), 0x323);
    }

    private static void at() {
        promise = "12 at";
        TupleMethods x = square();
        int[][] told = {{1, 1, 5, 4, 8}, {32, 0, 7, 4, 8}};
        for (int m = 0; m < 2; m++) {
            for (int what = 0; what < 5; what++) {
                due("at(0, " + m + ", " + what + ")", x.at(0, m, what), told[m][what]);
            }
        }
        x.rule();
        due("at(0, 0, 3)", x.at(0, 0, 3), 8);
        due("at(0, 1, 3)", x.at(0, 1, 3), 4);
        due("at(0, 1, 4)", x.at(0, 1, 4), 8);
        x.kind(1, NONE, NONE);
        due("at(0, 0, 3)", x.at(0, 0, 3), 15);
        due("at(0, 0, 4)", x.at(0, 0, 4), 15);
        due("at(0, 1, 4)", x.at(0, 1, 4), 10);
        int[] odd = {NONE, 5, 12, 13, 32, LEAST, MOST};
        for (int n : odd) {
            dueNoSuchAt(x, n, 0, 0);
            dueNoSuchAt(x, 0, n, 0);
            dueNoSuchAt(x, 0, 0, n);
        }
        dueNoSuchAt(x, 1, 0, 0);
        dueNoSuchAt(x, 0, 2, 0);
        x.drop(0, 0);
        dueNoSuchAt(x, 0, 0, 0);
        dueNoSuchAt(x, 0, 0, 3);
    }

    private static void callAndKept() {
        promise = "13 call, 19 kept";
        TupleMethods x = square();
        due("call(0, 0)", x.call(0, 0), NONE);
        due("call(0, 1)", x.call(0, 1), 0);
        due("call(0, 33)", x.call(0, 33), -2);
        due("call(0, 33)", x.call(0, 33), -2);
        due("call(0, 0)", x.call(0, 0), NONE);
        dueKept(x, 0, 1, 33, 0);
        due("count(4)", x.count(4), 2);
        due("count(5)", x.count(5), 3);
        due("call(0, 2)", x.call(0, 2), NONE);
        due("call(0, 3)", x.call(0, 3), 0);
        due("call(0, 48)", x.call(0, 48), 1);
        dueKept(x, 0, 1, 33, 0, 2, 3, 48);
        due("call(0, 49)", x.call(0, 49), -2);
        dueKept(x, 0, 33, 0, 2, 3, 48, 49);
        due("call(0, 1)", x.call(0, 1), 0);
        dueKept(x, 0, 0, 2, 3, 48, 49, 1);
        due("call(0, 0)", x.call(0, 0), NONE);
        dueKept(x, 0, 2, 3, 48, 49, 1, 0);
        due("count(4)", x.count(4), 3);
        due("count(5)", x.count(5), 8);
        int[] odd = {NONE, 4, 64, 256, 4096, LEAST, MOST};
        for (int n : odd) {
            due("call(0, " + n + ")", x.call(0, n), -3);
            due("call(" + n + ", 0)", x.call(n, 0), -3);
            due("kept(" + n + ", 0)", x.kept(n, 0), NONE);
        }
        due("call(1, 0)", x.call(1, 0), -3);
        due("count(5)", x.count(5), 8);
        due("kept(0, NONE)", x.kept(0, NONE), NONE);
        due("kept(0, 6)", x.kept(0, 6), NONE);
        due("kept(0, LEAST)", x.kept(0, LEAST), NONE);
        due("kept(0, MOST)", x.kept(0, MOST), NONE);
    }

    private static void dueKept(TupleMethods x, int function, int... row) {
        due("of(" + function + ", 9)", x.of(function, 9), row.length);
        for (int k = 0; k < row.length; k++) {
            due("kept(" + function + ", " + k + ")", x.kept(function, k), row[k]);
        }
        due("kept(" + function + ", " + row.length + ")", x.kept(function, row.length), NONE);
    }

    private static void keptDropped() {
        promise = "19 kept, dropped";
        TupleMethods x = square();
        x.function(2);
        int[] calls = {0, 1, 33, 2, 3, 48};
        for (int call : calls) {
            x.call(0, call);
            x.call(1, call);
        }
        due("kind(0, NONE, NONE)", x.kind(0, NONE, NONE), 4);
        due("method(0, 1, 0, 0)", x.method(0, 1, 0, 0), -2);
        due("method(0, 4, 0, 0)", x.method(0, 4, 0, 0), 2);
        dueKept(x, 0, 0, 1, 33, 2, 3, 48);
        due("method(0, 2, 0, 0)", x.method(0, 2, 0, 0), 3);
        dueKept(x, 0, 0, 1, 33, 48);
        dueKept(x, 1, 0, 1, 33, 2, 3, 48);
        due("drop(0, 1)", x.drop(0, 1), 3);
        dueKept(x, 0, 0, 1);
        due("call(0, 33)", x.call(0, 33), 0);
        dueKept(x, 0, 0, 1, 33);
        due("count(5)", x.count(5), 13);
        due("rule()", x.rule(), 1);
        dueKept(x, 0);
        dueKept(x, 1);
        due("count(4)", x.count(4), 0);
        due("call(0, 33)", x.call(0, 33), 0);
        due("count(5)", x.count(5), 14);
    }

    private static void answer() {
        promise = "14 answer";
        TupleMethods x = square();
        int[] row = {NONE, 0, NONE, 0, NONE, 0, NONE, 0, 1, -2, 1, -2, 1, -2, 1, -2};
        for (int i = 0; i < 16; i++) {
            int call = i % 4 + 16 * (i / 4);
            due("answer(0, " + call + ")", x.answer(0, call), row[i]);
        }
        due("of(0, 9)", x.of(0, 9), 0);
        due("count(5)", x.count(5), 0);
        int[] odd = {NONE, 4, 64, 256, 4096, LEAST, MOST};
        for (int n : odd) {
            due("answer(0, " + n + ")", x.answer(0, n), -3);
            due("answer(" + n + ", 0)", x.answer(n, 0), -3);
        }
        due("answer(1, 0)", x.answer(1, 0), -3);
        x.method(0, 33, 0, 0);
        due("answer(0, 51)", x.answer(0, 51), 2);
    }

    private static void applicable() {
        promise = "15 applicable";
        TupleMethods x = square();
        due("applicable(0, 0)", x.applicable(0, 0), 0);
        due("applicable(0, 3)", x.applicable(0, 3), 1);
        due("applicable(0, 34)", x.applicable(0, 34), 2);
        due("applicable(0, 51)", x.applicable(0, 51), 3);
        due("method(0, 0, 0, 0)", x.method(0, 0, 0, 0), 2);
        due("applicable(0, 51)", x.applicable(0, 51), 7);
        due("drop(0, 0)", x.drop(0, 0), 2);
        due("applicable(0, 51)", x.applicable(0, 51), 6);
        int[] odd = {NONE, 4, 64, 256, 4096, LEAST, MOST};
        for (int n : odd) {
            due("applicable(0, " + n + ")", x.applicable(0, n), NONE);
            due("applicable(" + n + ", 0)", x.applicable(n, 0), NONE);
        }
        due("applicable(1, 0)", x.applicable(1, 0), NONE);
    }

    private static void chain() {
        promise = "16 chain";
        TupleMethods x = square();
        x.method(0, 0, 0, 0);
        x.method(0, 51, 0, 0);
        dueChain(x, 0, 0, 2);
        dueChain(x, 0, 1, 0, 2);
        dueChain(x, 0, 33);
        dueChain(x, 0, 51, 3);
        x.rule();
        dueChain(x, 0, 33, 0, 1, 2);
        dueChain(x, 0, 51, 3, 0, 1, 2);
        int[] odd = {NONE, 4, 64, 256, 4096, LEAST, MOST};
        for (int n : odd) {
            due("chain(0, " + n + ", NONE)", x.chain(0, n, NONE), NONE);
            due("chain(" + n + ", 0, NONE)", x.chain(n, 0, NONE), NONE);
            due("chain(" + n + ", 0, 0)", x.chain(n, 0, 0), NONE);
        }
        due("chain(1, 0, NONE)", x.chain(1, 0, NONE), NONE);
        due("chain(0, 51, -2)", x.chain(0, 51, -2), NONE);
        due("chain(0, 51, LEAST)", x.chain(0, 51, LEAST), NONE);
        due("chain(0, 51, MOST)", x.chain(0, 51, MOST), NONE);
    }

    private static void dueChain(TupleMethods x, int function, int call, int... row) {
        String begin = "chain(" + function + ", " + call + ", ";
        due(begin + "NONE)", x.chain(function, call, NONE), row.length);
        for (int k = 0; k < row.length; k++) {
            due(begin + k + ")", x.chain(function, call, k), row[k]);
        }
        due(begin + row.length + ")", x.chain(function, call, row.length), NONE);
    }

    private static void chainByLists() {
        promise = "16 chain, by lists from the left on";
        TupleMethods x = diamond();
        x.kind(2, 1, NONE);
        x.function(3);
        x.method(0, 0x000, 0, 0);
        x.method(0, 0x001, 0, 0);
        x.method(0, 0x002, 0, 0);
        x.method(0, 0x012, 0, 0);
        x.method(0, 0x112, 0, 0);
        x.method(0, 0x212, 0, 0);
        x.rule();
        dueChain(x, 0, 0x333, 1, 4, 5, 3, 2, 0);
        dueChain(x, 0, 0x444, 5, 4, 3, 2, 1, 0);
        dueChain(x, 0, 0x334, 4, 5, 3, 2, 1, 0);
        dueChain(x, 0, 0x433, 1, 5, 4, 3, 2, 0);
        due("answer(0, 0x034)", x.answer(0, 0x034), 3);
    }

    private static void broken() {
        promise = "17 broken";
        TupleMethods x = square();
        due("broken(0, 0)", x.broken(0, 0), 0);
        due("broken(0, 1)", x.broken(0, 1), 0);
        due("broken(0, 33)", x.broken(0, 33), 2);
        x.method(0, 0, 0, 0);
        due("broken(0, 33)", x.broken(0, 33), 3);
        x.method(0, 51, 0, 0);
        due("broken(0, 51)", x.broken(0, 51), 3);
        due("broken(0, 3)", x.broken(0, 3), 0);
        x.rule();
        due("broken(0, 51)", x.broken(0, 51), 0);
        int[] odd = {NONE, 4, 64, 256, 4096, LEAST, MOST};
        for (int n : odd) {
            due("broken(0, " + n + ")", x.broken(0, n), NONE);
            due("broken(" + n + ", 0)", x.broken(n, 0), NONE);
        }
        due("broken(1, 0)", x.broken(1, 0), NONE);
    }

    private static void work() {
        promise = "18 work";
        TupleMethods x = line(5);
        x.function(1);
        x.method(0, 1, 3, -4);
        x.method(0, 2, 1, 6);
        x.method(0, 3, 2, -3);
        x.method(0, 4, 3, -20);
        dueNoSuchWork(x, 0, 0);
        due("work(0, 1), the greater one of -4 and 0", x.work(0, 1), 0);
        due("work(0, 2)", x.work(0, 2), 6);
        due("work(0, 3)", x.work(0, 3), -18);
        due("work(0, 4)", x.work(0, 4), -18);
        x.drop(0, 0);
        x.method(0, 1, 0, 9);
        due("work(0, 1)", x.work(0, 1), 9);
        due("work(0, 2)", x.work(0, 2), 15);
        due("work(0, 3)", x.work(0, 3), -45);
        due("work(0, 4)", x.work(0, 4), -20);
        x.method(0, 0, 2, 100);
        due("work(0, 0), 100 times 0", x.work(0, 0), 0);
        due("work(0, 1), kind 0 over another", x.work(0, 1), 9);
        TupleMethods y = square();
        dueNoSuchWork(y, 0, 33);
        dueNoSuchWork(y, 0, 0);
        due("work(0, 1)", y.work(0, 1), 5);
        y.rule();
        due("work(0, 33)", y.work(0, 33), 12);
        y.rule();
        y.method(0, 33, 1, 100);
        due("work(0, 33), broken behind the first", y.work(0, 33), 100);
        int[] odd = {NONE, 4, 64, 256, 4096, LEAST, MOST};
        for (int n : odd) {
            dueNoSuchWork(y, 0, n);
            dueNoSuchWork(y, n, 1);
        }
        dueNoSuchWork(y, 1, 1);
    }

    private static void workWraps() {
        promise = "18 work, wrapping";
        TupleMethods x = line(12);
        x.function(1);
        x.method(0, 0, 0, 999);
        int want = 999;
        for (int c = 1; c < 12; c++) {
            x.method(0, c, 2, 999);
            want *= 999;
            due("work(0, " + c + ")", x.work(0, c), want);
        }
        due("chain(0, 11, NONE)", x.chain(0, 11, NONE), 12);
    }

    private static void clash() {
        promise = "20 clash";
        TupleMethods x = diamond();
        x.kind(2, 1, NONE);
        x.kind(3, NONE, NONE);
        x.function(1);
        due("clash(0, 0)", x.clash(0, 0), NONE);
        x.method(0, 1, 0, 0);
        x.method(0, 2, 0, 0);
        due("of(0, 4)", x.of(0, 4), 3);
        due("of(0, 5)", x.of(0, 5), 2);
        due("clash(0, 0)", x.clash(0, 0), 3);
        due("clash(0, 1)", x.clash(0, 1), 4);
        due("clash(0, 2)", x.clash(0, 2), NONE);
        x.rule();
        due("clash(0, 1)", x.clash(0, 1), 4);
        x.method(0, 3, 0, 0);
        due("clash(0, 0)", x.clash(0, 0), 4);
        due("clash(0, 1)", x.clash(0, 1), NONE);
        int[] odd = {NONE, 4, 16, LEAST, MOST};
        for (int n : odd) {
            due("clash(0, " + n + ")", x.clash(0, n), NONE);
            due("clash(" + n + ", 0)", x.clash(n, 0), NONE);
        }
        due("clash(1, 0)", x.clash(1, 0), NONE);
    }

    private static void clashOfThree() {
        promise = "20 clash, of three places";
        TupleMethods x = line(3);
        x.function(3);
        x.method(0, 0x001, 0, 0);
        x.method(0, 0x010, 0, 0);
        x.method(0, 0x100, 0, 0);
        due("of(0, 4)", x.of(0, 4), 20);
        due("of(0, 5)", x.of(0, 5), 3);
        due("clash(0, 0)", x.clash(0, 0), 0x011);
        due("clash(0, 1)", x.clash(0, 1), 0x101);
        due("clash(0, 2)", x.clash(0, 2), 0x110);
        due("settle(0)", x.settle(0), 4);
        x.method(0, 0x011, 0, 0);
        due("clash(0, 0)", x.clash(0, 0), 0x101);
        due("settle(0)", x.settle(0), 3);
        x.method(0, 0x101, 0, 0);
        x.method(0, 0x110, 0, 0);
        due("clash(0, 0)", x.clash(0, 0), 0x111);
        due("of(0, 4)", x.of(0, 4), 8);
        x.method(0, 0x111, 0, 0);
        due("clash(0, 0)", x.clash(0, 0), NONE);
    }

    private static void gap() {
        promise = "21 gap";
        TupleMethods x = square();
        due("gap(0, 0)", x.gap(0, 0), 0);
        due("gap(0, 1)", x.gap(0, 1), NONE);
        x.rule();
        due("gap(0, 0)", x.gap(0, 0), 0);
        int[] odd = {NONE, 4, 16, LEAST, MOST};
        for (int n : odd) {
            due("gap(0, " + n + ")", x.gap(0, n), NONE);
            due("gap(" + n + ", 0)", x.gap(n, 0), NONE);
        }
        due("gap(1, 0)", x.gap(1, 0), NONE);
        x.method(0, 0, 0, 0);
        due("gap(0, 0)", x.gap(0, 0), NONE);
        due("of(0, 6)", x.of(0, 6), 0);
    }

    private static void fight() {
        promise = "22 fight";
        TupleMethods x = square();
        due("fight(0, 0, 1)", x.fight(0, 0, 1), 33);
        due("fight(0, 1, 0)", x.fight(0, 1, 0), 33);
        due("fight(0, 0, 0)", x.fight(0, 0, 0), NONE);
        x.rule();
        due("fight(0, 0, 1) by rule 1", x.fight(0, 0, 1), 33);
        x.method(0, 0, 0, 0);
        due("fight(0, 0, 2), one at most the other", x.fight(0, 0, 2), NONE);
        due("fight(0, 2, 1), one at most the other", x.fight(0, 2, 1), NONE);
        x.method(0, 33, 0, 0);
        due("fight(0, 0, 1), 3 at most both", x.fight(0, 0, 1), NONE);
        x.drop(0, 3);
        x.method(0, 35, 0, 0);
        due("fight(0, 0, 1), 3 at most both elsewhere", x.fight(0, 0, 1), 33);
        x.method(0, 3, 0, 0);
        due("fight(0, 4, 1)", x.fight(0, 4, 1), NONE);
        x.drop(0, 3);
        due("fight(0, 4, 1)", x.fight(0, 4, 1), 35);
        int[] odd = {NONE, 3, 12, 13, 32, LEAST, MOST};
        for (int n : odd) {
            due("fight(0, 0, " + n + ")", x.fight(0, 0, n), NONE);
            due("fight(0, " + n + ", 0)", x.fight(0, n, 0), NONE);
            due("fight(" + n + ", 0, 1)", x.fight(n, 0, 1), NONE);
        }
        due("fight(1, 0, 1)", x.fight(1, 0, 1), NONE);
    }

    private static void pole() {
        promise = "23 pole";
        TupleMethods x = square();
        int[][] poles = {{0, 1, 0, 1}, {0, 0, 2, 2}};
        duePoles(x, poles);
        x.method(0, 33, 0, 0);
        duePoles(x, poles);
        x.method(0, 3, 0, 0);
        int[][] later = {{0, 1, 0, 3}, {0, 0, 2, 2}};
        duePoles(x, later);
        x.rule();
        duePoles(x, later);
        x.drop(0, 3);
        duePoles(x, poles);
        x.drop(0, 2);
        duePoles(x, new int[][] {{0, 1, 0, 1}, {0, 0, 2, 2}});
        int[] odd = {NONE, 4, 16, LEAST, MOST};
        for (int n : odd) {
            due("pole(0, 0, " + n + ")", x.pole(0, 0, n), NONE);
            due("pole(0, " + n + ", 0)", x.pole(0, n, 0), NONE);
            due("pole(" + n + ", 0, 0)", x.pole(n, 0, 0), NONE);
        }
        due("pole(0, 2, 0)", x.pole(0, 2, 0), NONE);
        due("pole(1, 0, 0)", x.pole(1, 0, 0), NONE);
        x.function(1);
        x.method(1, 3, 0, 0);
        due("pole(1, 0, 3)", x.pole(1, 0, 3), 3);
        due("pole(1, 0, 2)", x.pole(1, 0, 2), 0);
        due("pole(1, 1, 0)", x.pole(1, 1, 0), NONE);
        due("of(1, 7)", x.of(1, 7), 2);
    }

    private static void duePoles(TupleMethods x, int[][] poles) {
        int size = 1;
        for (int place = 0; place < poles.length; place++) {
            int own = 0;
            for (int c = 0; c < poles[place].length; c++) {
                due("pole(0, " + place + ", " + c + ")", x.pole(0, place, c), poles[place][c]);
                own += poles[place][c] == c ? 1 : 0;
            }
            size *= own;
        }
        due("of(0, 7)", x.of(0, 7), size);
    }

    private static void change() {
        promise = "24 change";
        TupleMethods x = square();
        due("change(0, 0)", x.change(0, 0), 4);
        due("change(0, 33)", x.change(0, 33), 4);
        due("change(0, 2)", x.change(0, 2), 6);
        due("change(0, 1)", x.change(0, 1), -2);
        due("change(0, 32)", x.change(0, 32), -2);
        due("of(0, 1), as before", x.of(0, 1), 3);
        due("answer(0, 33), as before", x.answer(0, 33), -2);
        x.call(0, 33);
        due("change(0, 33)", x.change(0, 33), 4);
        due("of(0, 9), as before", x.of(0, 9), 1);
        x.rule();
        due("change(0, 0)", x.change(0, 0), 4);
        due("change(0, 2)", x.change(0, 2), 4);
        due("change(0, 33)", x.change(0, 33), 4);
        int[] odd = {NONE, 4, 64, 256, 4096, LEAST, MOST};
        for (int n : odd) {
            due("change(0, " + n + ")", x.change(0, n), NONE);
            due("change(" + n + ", 0)", x.change(n, 0), NONE);
        }
        due("change(1, 0)", x.change(1, 0), NONE);
    }

    private static void changeOfFull() {
        promise = "24 change, of a full function";
        TupleMethods x = line(16);
        x.function(1);
        for (int c = 0; c < 12; c++) {
            x.method(0, c, 0, 0);
        }
        due("change(0, 12)", x.change(0, 12), 4);
        due("change(0, 15)", x.change(0, 15), 1);
        due("change(0, 11)", x.change(0, 11), -2);
        x.rule();
        due("change(0, 12)", x.change(0, 12), 4);
        due("of(0, 1)", x.of(0, 1), 4095);
        due("settle(0)", x.settle(0), 0);
    }

    private static void settle() {
        promise = "25 settle";
        TupleMethods x = square();
        due("settle(0)", x.settle(0), 1);
        due("of(0, 1), as before", x.of(0, 1), 3);
        due("of(0, 5), as before", x.of(0, 5), 1);
        x.rule();
        due("settle(0) by rule 1", x.settle(0), 1);
        x.function(1);
        due("settle(1) without methods", x.settle(1), 0);
        int[] odd = {NONE, 2, 4, LEAST, MOST};
        for (int n : odd) {
            due("settle(" + n + ")", x.settle(n), NONE);
        }
        TupleMethods y = diamond();
        y.kind(1, 2, NONE);
        due("kind(3, 4, NONE)", y.kind(3, 4, NONE), 5);
        y.function(1);
        y.method(0, 1, 0, 0);
        y.method(0, 2, 0, 0);
        due("of(0, 5)", y.of(0, 5), 2);
        due("settle(0), with a clash that comes", y.settle(0), 3);
    }

    private static void settleRoom() {
        promise = "25 settle, room";
        TupleMethods x = diamond();
        for (int c = 4; c <= 12; c++) {
            x.kind(1, 2, NONE);
        }
        x.function(1);
        x.method(0, 1, 0, 0);
        x.method(0, 2, 0, 0);
        due("of(0, 5)", x.of(0, 5), 10);
        due("settle(0), as many as there is room for", x.settle(0), 10);
        due("kind(1, 2, NONE)", x.kind(1, 2, NONE), 13);
        due("settle(0), one more", x.settle(0), -2);
        due("of(0, 1), as before", x.of(0, 1), 3);
        due("clash(0, 10)", x.clash(0, 10), 13);
        due("clash(0, 11)", x.clash(0, 11), NONE);
    }
}
