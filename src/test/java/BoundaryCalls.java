/** The boundary cases that promises 13 to 19 name: calls. */
public final class BoundaryCalls {
    private static final int LEAST = Bench.LEAST;
    private static final int MOST = Bench.MOST;

    private static final String ASKED = Setups.SQUARE + "call(0, 0x00) = NONE; call(0, 0x21) = -2; call(0, 0x01) = 0;";

    private static Bench b;

    public static void main(String[] args) {
        b = new Bench(args);
        call();
        callRefused();
        answer();
        applicable();
        chain();
        broken();
        work();
        kept();
        b.end();
    }

    private static void call() {
        b.sentence("Promise 13", "ANSWER; it is asked (HIT, MISS, KEPT).");
        b.holds("the first and the last CALL, one PLACE", Setups.one(4, 1), "call(0, 0) = 0; call(0, 3) = 0;"
            + "kept(0, 1) = 3");
        b.holds("the first and the last CALL, two PLACES", Setups.one(4, 2), "call(0, 0) = 0; call(0, 0x33) = 0;"
            + "kept(0, 1) = 0x33");
        b.holds("the first and the last CALL, three PLACES", Setups.one(4, 3), "call(0, 0) = 0; call(0, 0x333) = 0;"
            + "kept(0, 1) = 0x333");
        b.holds("the last CALL of sixteen CLASSES", Setups.one(16, 3), "call(0, 4095) = 0; call(0, 4095) = 0;"
            + "kept(0, 0) = 4095; count(4) = 1; count(5) = 1");
        b.holds("the first and the last FUNCTION", Setups.FOUR, "call(0, 1) = 0; call(3, 0x20) = 1; kept(0, 0) = 1;"
            + "kept(3, 0) = 0x20; of(1, 9) = 0; of(2, 9) = 0");
        b.holds("NONE, -2 and a METHOD, each a MISS, then a HIT", ASKED, "count(5) = 3; count(4) = 0;"
            + "call(0, 0x00) = NONE; call(0, 0x21) = -2; call(0, 0x01) = 0; count(5) = 3; count(4) = 3");
        b.holds("a METHOD came: no ANSWER of before", ASKED, "method(0, 0x21, 0, 0) = 2; call(0, 0x21) = 2;"
            + "drop(0, 2) = 2; call(0, 0x21) = -2; drop(0, 1) = 1; call(0, 0x21) = 0; count(4) = 0; count(5) = 6");
        b.holds("another RULE: no ANSWER of before", ASKED, "rule(); call(0, 0x21) = 0; rule(); call(0, 0x21) = -2;"
            + "count(4) = 0; count(5) = 5");
        b.holds("a new CLASS: the ANSWER of before, a HIT", ASKED, "kind(3, NONE, NONE) = 4; call(0, 0x21) = -2;"
            + "count(4) = 1; call(0, 0x44) = -2; count(5) = 4");
    }

    private static void callRefused() {
        b.sentence("Promise 13", "-3: there are none such.");
        b.allowedFunctions("call(?, 0x21) = -2");
        b.allowedCalls("call(0, ?) = 0");
        b.refusedFunctions("call(?, 0) = -3");
        b.refusedCalls("call(0, ?) = -3");
        b.refused("with KEPT ones", ASKED, "call(0, ?) = -3", -1, 4, 0x40, 0x100, MOST);
        b.refused("with KEPT ones of another FUNCTION", ASKED, "call(?, 0x21) = -3", -1, 1, LEAST);
        b.refused("with six KEPT ones", ASKED + "call(0, 2); call(0, 3); call(0, 0x33) = -2", "call(0, ?) = -3", -1, 4,
            0x40);
    }

    private static void answer() {
        b.sentence("Promise 14", "ANSWER (nothing is asked).");
        b.leavesNoTrace("a CALL that is not KEPT", ASKED, "answer(0, 0x33) = -2");
        b.leavesNoTrace("the oldest KEPT one", ASKED, "answer(0, 0x00) = NONE");
        b.leavesNoTrace("the latest KEPT one", ASKED, "answer(0, 0x01) = 0");
        b.leavesNoTrace("with six KEPT ones", ASKED + "call(0, 2); call(0, 3); call(0, 0x33) = -2",
            "answer(0, 0x20) = 1");
        b.holds("no HIT, no MISS, none KEPT", Setups.SQUARE, "answer(0, 1) = 0; answer(0, 1) = 0; count(4) = 0;"
            + "count(5) = 0; count(6) = 0; kept(0, 0) = NONE");
        b.holds("the first and the last CALL of sixteen CLASSES", Setups.one(16, 3), "method(0, 4095, 0, 0) = 1;"
            + "answer(0, 0) = 0; answer(0, 4094) = 0; answer(0, 4095) = 1");
        b.holds("the first and the last CALL of four CLASSES", Setups.one(4, 2), "method(0, 0x33, 0, 0) = 1;"
            + "answer(0, 0) = 0; answer(0, 0x33) = 1; answer(0, 0x23) = 0; answer(0, 0x32) = 0");
        b.holds("the first and the last FUNCTION", Setups.FOUR, "drop(3, 0); answer(0, 1) = 0; answer(3, 1) = NONE");
        b.holds("the first and the last METHOD", Setups.methods(16, 12), "answer(0, 0) = 0; answer(0, 11) = 11;"
            + "answer(0, 15) = 11; rule(); answer(0, 0) = 0; answer(0, 15) = 11");
        b.sentence("Promise 14", "-3: there are none such.");
        b.allowedFunctions("answer(?, 0x21) = -2");
        b.allowedCalls("answer(0, ?) = 0");
        b.refusedFunctions("answer(?, 0) = -3");
        b.refusedCalls("answer(0, ?) = -3");
    }

    private static void applicable() {
        b.sentence("Promise 15", "APPLICABLE METHODS, as bits.");
        b.holds("none of none, none of two", Setups.SQUARE, "applicable(0, 0) = 0; function(1); applicable(1, 0) = 0");
        b.holds("the first bit, the last bit, all twelve", Setups.methods(12, 12), "applicable(0, 0) = 1;"
            + "applicable(0, 11) = 4095; drop(0, 0); applicable(0, 0) = 0; applicable(0, 11) = 4094");
        b.holds("by both RULES the same", Setups.SQUARE, "applicable(0, 0x33) = 3; rule(); applicable(0, 0x33) = 3");
        b.holds("the first and the last CALL of sixteen CLASSES", Setups.one(16, 3), "applicable(0, 0) = 1;"
            + "applicable(0, 4095) = 1");
        b.holds("the first and the last FUNCTION", Setups.FOUR, "drop(3, 0); applicable(0, 0x21) = 3;"
            + "applicable(3, 0x21) = 2");
        b.leavesNoTrace("asking changes nothing", ASKED, "applicable(0, 0x21) = 3");
        b.sentence("Promise 15", "NONE: there are none such.");
        b.allowedFunctions("applicable(?, 0x21) = 3");
        b.allowedCalls("applicable(0, ?) = 1");
        b.refusedFunctions("applicable(?, 0) = NONE");
        b.refusedCalls("applicable(0, ?) = NONE");
    }

    private static void chain() {
        b.sentence("Promise 16", "How long CHAIN is (k NONE), or the k-th METHOD of it.");
        b.holds("no METHOD", Setups.SQUARE, "chain(0, 0, NONE) = 0; chain(0, 0x21, NONE) = 0");
        b.holds("one METHOD", Setups.SQUARE, "chain(0, 1, NONE) = 1; chain(0, 1, 0) = 0; chain(0, 0x20, 0) = 1");
        b.holds("twelve METHODS", Setups.methods(12, 12), "chain(0, 11, NONE) = 12; chain(0, 11, 0) = 11;"
            + "chain(0, 11, 11) = 0");
        b.holds("the first and the last CALL of sixteen CLASSES", Setups.one(16, 3), "chain(0, 0, NONE) = 1;"
            + "chain(0, 4095, 0) = 0");
        b.holds("the first and the last FUNCTION", Setups.FOUR, "drop(3, 0); chain(0, 1, NONE) = 1;"
            + "chain(3, 1, NONE) = 0");
        b.leavesNoTrace("asking changes nothing", ASKED, "chain(0, 1, NONE) = 1");
        b.leavesNoTrace("asking for one changes nothing", ASKED, "chain(0, 1, 0) = 0");
        b.sentence("Promise 16", "NONE: there are none such, not so many.");
        b.allowedFunctions("chain(?, 0x20, 0) = 1");
        b.allowedCalls("chain(0, ?, NONE) = 1");
        b.allowedCalls("chain(0, ?, 0) = 0");
        b.refusedFunctions("chain(?, 0, NONE) = NONE");
        b.refusedFunctions("chain(?, 1, 0) = NONE");
        b.refusedCalls("chain(0, ?, NONE) = NONE");
        b.refusedCalls("chain(0, ?, 0) = NONE");
        b.refused("not so many, of none", Setups.SQUARE, "chain(0, 0, ?) = NONE", 0, 1, 11, 12);
        b.refused("not so many, of none as there is no FIRST", Setups.SQUARE, "chain(0, 0x21, ?) = NONE", 0, 1, 2);
        b.refused("not so many, of one", Setups.SQUARE, "chain(0, 1, ?) = NONE", 1, 2, 11, 12, 32, MOST);
        b.refused("not so many, of one with others left", Setups.SQUARE + "method(0, 0x21, 0, 0) = 2",
            "chain(0, 0x21, ?) = NONE", 1, 2, 3);
        b.refused("not so many, of twelve", Setups.methods(12, 12), "chain(0, 11, ?) = NONE", 12, 13, 32, MOST);
        b.refused("k below NONE", Setups.methods(12, 12), "chain(0, 11, ?) = NONE", -2, -3, -12, -32, LEAST);
        b.holds("no METHOD of a CHAIN that was asked before", Setups.methods(12, 12), "chain(0, 11, 5) = 6;"
            + "chain(0, 2, 2) = 0; chain(0, 2, 3) = NONE; chain(0, 2, 5) = NONE");
    }

    private static void broken() {
        b.sentence("Promise 17", "How many METHODS are left behind a CHAIN that is BROKEN (0: it is not).");
        b.holds("0: no METHOD", Setups.SQUARE, "broken(0, 0) = 0");
        b.holds("0: one METHOD", Setups.SQUARE, "broken(0, 1) = 0");
        b.holds("0: twelve METHODS in a row", Setups.methods(12, 12), "broken(0, 11) = 0");
        b.holds("the least that can be", Setups.SQUARE, "broken(0, 0x21) = 2");
        b.holds("all twelve", Setups.crossing(12), "broken(0, 0xBB) = 12; broken(0, 0xAB) = 11; broken(0, 0x1B) = 2;"
            + "broken(0, 0x0B) = 0");
        b.holds("0 by RULE 1", Setups.crossing(12), "rule(); broken(0, 0xBB) = 0; chain(0, 0xBB, NONE) = 12");
        b.holds("the first and the last CALL of sixteen CLASSES", Setups.one(16, 3), "broken(0, 0) = 0;"
            + "broken(0, 4095) = 0");
        b.holds("the first and the last FUNCTION", Setups.FOUR, "drop(3, 0); broken(0, 0x21) = 2; broken(3, 0x21) = 0");
        b.leavesNoTrace("asking changes nothing", ASKED, "broken(0, 0x21) = 2");
        b.sentence("Promise 17", "NONE: there are none such.");
        b.allowedFunctions("broken(?, 0x21) = 2");
        b.allowedCalls("broken(0, ?) = 0");
        b.refusedFunctions("broken(?, 0) = NONE");
        b.refusedCalls("broken(0, ?) = NONE");
    }

    private static void work() {
        b.sentence("Promise 18", "What is WORKED out of CHAIN.");
        b.holds("one METHOD", Setups.SQUARE, "work(0, 1) = 5; work(0, 0x20) = 7");
        b.holds("the first and the last CALL of sixteen CLASSES", Setups.one(16, 3), "work(0, 0) = 5;"
            + "work(0, 4095) = 5");
        b.holds("the first and the last FUNCTION", Setups.FOUR, "work(0, 1) = 5; work(3, 0x20) = 7");
        b.holds("twelve METHODS", Setups.line(12) + "function(1);" + sums(), "work(0, 11) = 78; work(0, 0) = 1");
        b.holds("-1, -2 and -3 are worked out as any other", Setups.line(3), "function(1); method(0, 0, 0, -1);"
            + "method(0, 1, 1, -1); method(0, 2, 1, -1); work(0, 0) = -1; work(0, 1) = -2; work(0, 2) = -3");
        b.leavesNoTrace("asking changes nothing", ASKED, "work(0, 1) = 5");
        b.sentence("Promise 18", "NoSuchElementException: there are none such,");
        b.allowedFunctions("work(?, 0x20) = 7");
        b.allowedCalls("work(0, ?) = 5");
        b.refusedFunctions("work(?, 1) = throws");
        b.refusedCalls("work(0, ?) = throws");
        b.sentence("Promise 18", "it has no METHOD.");
        b.leavesNoTrace("none is APPLICABLE", ASKED, "work(0, 0) = throws");
        b.leavesNoTrace("there are no METHODS", Setups.DIAMOND + "function(3) = 0", "work(0, 0x333) = throws");
        b.leavesNoTrace("there is no FIRST", ASKED, "work(0, 0x21) = throws");
        b.leavesNoTrace("there is no FIRST of twelve", Setups.crossing(12), "work(0, 0xBB) = throws");
        b.leavesNoTrace("the only METHOD went", Setups.one(4, 1) + "drop(0, 0) = 0", "work(0, 3) = throws");
        b.leavesNoTrace("none is APPLICABLE by RULE 1", Setups.SQUARE + "rule() = 1", "work(0, 0x12) = throws");
        b.holds("by RULE 1 it has", Setups.SQUARE, "work(0, 0x21) = throws; rule(); work(0, 0x21) = 12; rule();"
            + "work(0, 0x21) = throws");
    }

    private static String sums() {
        StringBuilder s = new StringBuilder();
        for (int m = 0; m < 12; m++) {
            s.append("method(0, ").append(m).append(", 1, ").append(m + 1).append(");");
        }
        return s.toString();
    }

    private static void kept() {
        String six = Setups.one(16, 1) + "call(0, 9); call(0, 3); call(0, 15); call(0, 0); call(0, 7); call(0, 1);";
        b.sentence("Promise 19", "The k-th KEPT CALL of a FUNCTION, the oldest first.");
        b.holds("the first and the last of six", six, "kept(0, 0) = 9; kept(0, 5) = 1");
        b.holds("the first and the last of six of seven", six, "call(0, 2); kept(0, 0) = 3; kept(0, 5) = 2");
        b.holds("the only one", ASKED, "drop(0, 0) = 1; kept(0, 0) = 0; kept(0, 1) = NONE");
        b.holds("the last CALL of sixteen CLASSES", Setups.one(16, 3), "call(0, 4095); kept(0, 0) = 4095");
        b.holds("the first and the last FUNCTION", Setups.FOUR, "call(0, 1); call(3, 2); kept(0, 0) = 1;"
            + "kept(3, 0) = 2; kept(1, 0) = NONE");
        b.leavesNoTrace("asking changes nothing", ASKED, "kept(0, 0) = 0");
        b.sentence("Promise 19", "NONE: there is none such, not so many.");
        b.allowed("each of six", Setups.one(6,
            1) + "call(0, 0); call(0, 1); call(0, 2); call(0, 3); call(0, 4); call(0, 5);",
            "kept(0, ?) = ?", 0, 1, 4, 5);
        b.refusedFunctions("kept(?, 0) = NONE");
        b.refused("no such FUNCTION, with KEPT ones", ASKED, "kept(?, 0) = NONE", -1, 1, 4, LEAST, MOST);
        b.refused("not so many, of none", Setups.SQUARE, "kept(0, ?) = NONE", 0, 1, 5, 6);
        b.refused("not so many, of three", ASKED, "kept(0, ?) = NONE", 3, 4, 5, 6, 7);
        b.refused("not so many, of six", six, "kept(0, ?) = NONE", 6, 7, 16, 32, MOST);
        b.refused("not so many, of six of seven", six + "call(0, 2);", "kept(0, ?) = NONE", 6, 7);
        b.refused("not so many, of none where a RULE dropped them", six + "rule() = 1;", "kept(0, ?) = NONE", 0, 5);
        b.refused("too small", six, "kept(0, ?) = NONE", -1, -2, -6, LEAST);
    }
}
