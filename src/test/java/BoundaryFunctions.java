/** The boundary cases that promises 6 to 12 name: functions and methods. */
public final class BoundaryFunctions {
    private static final int LEAST = Bench.LEAST;
    private static final int MOST = Bench.MOST;

    private static Bench b;

    public static void main(String[] args) {
        b = new Bench(args);
        function();
        methodFunctions();
        methodClasses();
        methodKindsAndValues();
        methodRoom();
        methodTaken();
        drop();
        rule();
        count();
        countMost();
        of();
        ofMethods();
        ofCalls();
        ofAmbiguous();
        ofTables();
        at();
        atCalls();
        b.end();
    }

    private static void function() {
        b.sentence("Promise 6", "A FUNCTION comes: its number.");
        b.holds("from 0 to 3", "function(3) = 0; function(2) = 1; function(1) = 2; function(3) = 3");
        b.holds("ahead of other CLASSES", "function(2) = 0; kind(0, NONE, NONE) = 1; of(0, 2) = 4;"
            + "answer(0, 0x11) = NONE");
        b.holds("with nothing in it, whatever there is in others", Setups.SQUARE + "call(0, 1) = 0", "function(2) = 1;"
            + "of(1, 1) = 0; of(1, 9) = 0; answer(1, 1) = NONE; of(1, 3) = 16; at(1, 0, 0) = throws");
        b.sentence("Promise 6", "NONE: there are 4,");
        b.holds("there are 3: the last one comes", Setups.DIAMOND, "function(1); function(1); function(1) = 2;"
            + "function(2) = 3; of(3, 0) = 2; count(1) = 4");
        b.refused("there are 4", Setups.FOUR, "function(?) = NONE", 1, 2, 3);
        b.refused("there are 4, another number of PLACES, too", Setups.FOUR, "function(?) = NONE", 0, 4);
        b.holds("it stays so", Setups.FOUR, Setups.times(5, "function(1) = NONE;"), "count(1) = 4; drop(3, 0) = 1;"
            + "drop(3, 1) = 0; function(1) = NONE");
        b.sentence("Promise 6", "another number of PLACES.");
        b.holds("the least that is allowed", "function(1) = 0; of(0, 0) = 1");
        b.holds("the most that is allowed", "function(3) = 0; of(0, 0) = 3");
        b.refused("too small", Setups.SQUARE, "function(?) = NONE", 0, -1, -2, -16, LEAST);
        b.refused("too large", Setups.SQUARE, "function(?) = NONE", 4, 5, 16, 32, 257, MOST);
        b.holds("a refused one has no number", "function(0) = NONE; function(4) = NONE; count(1) = 0; of(0, 0) = NONE;"
            + "function(2) = 0; count(1) = 1");
    }

    private static void methodFunctions() {
        b.sentence("Promise 7", "NONE: no such FUNCTION,");
        b.holds("the first and the last of four", Setups.FOUR, "method(0, 0, 0, 0) = 2; method(3, 0, 0, 0) = 2;"
            + "of(1, 1) = 3; of(3, 1) = 7");
        b.allowedFunctions("method(?, 0x00, 0, 0) = 2");
        b.refusedFunctions("method(?, 0x00, 0, 0) = NONE");
    }

    private static void methodClasses() {
        b.sentence("Promise 7", "no such CLASSES,");
        b.holds("the least and the last number, one PLACE", Setups.line(4), "function(1) = 0; method(0, 0, 0, 0) = 0;"
            + "method(0, 3, 0, 0) = 1; at(0, 1, 0) = 3");
        b.holds("the least and the last number, two PLACES", Setups.line(4), "function(2) = 0; method(0, 0, 0, 0) = 0;"
            + "method(0, 0x33, 0, 0) = 1; method(0, 0x03, 0, 0) = 2; method(0, 0x30, 0, 0) = 3; at(0, 1, 0) = 0x33");
        b.holds("the least and the last number, three PLACES", Setups.line(4), "function(3) = 0;"
            + "method(0, 0, 0, 0) = 0; method(0, 0x333, 0, 0) = 1; method(0, 0x300, 0, 0) = 2; at(0, 2, 0) = 0x300");
        b.holds("the last number of sixteen CLASSES, one PLACE", Setups.line(16), "function(1) = 0;"
            + "method(0, 15, 0, 0) = 0; at(0, 0, 0) = 15");
        b.holds("the last number of sixteen CLASSES, two PLACES", Setups.line(16), "function(2) = 0;"
            + "method(0, 255, 0, 0) = 0; at(0, 0, 0) = 255");
        b.holds("the last number of sixteen CLASSES, three PLACES", Setups.line(16), "function(3) = 0;"
            + "method(0, 4095, 0, 0) = 0; at(0, 0, 0) = 4095");
        b.allowedTargets("method(0, ?, 0, 0) = 0");
        b.refusedCalls("method(0, ?, 0, 0) = NONE");
        b.holds("a CLASS that came behind the FUNCTION", Setups.SQUARE, "method(0, 0x44, 0, 0) = NONE;"
            + "kind(3, NONE, NONE) = 4; method(0, 0x44, 0, 0) = 2; method(0, 0x45, 0, 0) = NONE");
    }

    private static void methodKindsAndValues() {
        b.sentence("Promise 7", "a KIND, VALUE that can't be,");
        b.holds("the least and the most KIND", Setups.SQUARE, "method(0, 0x33, 0, 1) = 2; at(0, 2, 1) = 0;"
            + "method(0, 0x32, 3, 1) = 3; at(0, 3, 1) = 3");
        b.refused("KIND too small", Setups.SQUARE, "method(0, 0, ?, 0) = NONE", -1, -2, -4, LEAST);
        b.refused("KIND too large", Setups.SQUARE, "method(0, 0, ?, 0) = NONE", 4, 5, 16, 32, MOST);
        b.holds("the least and the most VALUE", Setups.SQUARE, "method(0, 0x33, 0, -999) = 2; at(0, 2, 2) = -999;"
            + "method(0, 0x32, 0, 999) = 3; at(0, 3, 2) = 999");
        b.refused("VALUE too small", Setups.SQUARE, "method(0, 0, 0, ?) = NONE", -1000, -1001, -65536, LEAST);
        b.refused("VALUE too large", Setups.SQUARE, "method(0, 0, 0, ?) = NONE", 1000, 1001, 65536, MOST);
        b.refused("VALUE too small, of each KIND", Setups.SQUARE, "method(0, 0, ?, -1000) = NONE", 0, 1, 2, 3);
        b.refused("VALUE too large, of each KIND", Setups.SQUARE, "method(0, 0, ?, 1000) = NONE", 0, 1, 2, 3);
        b.leavesNoTrace("a KIND that can't be, where there is one for that", Setups.SQUARE,
            "method(0, 0x01, 4, 5) = NONE");
        b.leavesNoTrace("a VALUE that can't be, where there is one for that", Setups.SQUARE,
            "method(0, 0x01, 1, 1000) = NONE");
    }

    private static void methodRoom() {
        b.sentence("Promise 7", "there are 12;");
        b.holds("there are 11: the last one comes", Setups.methods(13, 11), "method(0, 12, 0, 0) = 11;"
            + "of(0, 1) = 4095; method(0, 11, 0, 0) = NONE");
        b.leavesNoTrace("there are 12", Setups.methods(13, 12), "method(0, 12, 0, 0) = NONE");
        b.leavesNoTrace("there are 12, with KEPT ones", Setups.methods(16, 12) + "call(0, 15) = 11; call(0, 12) = 11",
            "method(0, 15, 0, 0) = NONE");
        b.leavesNoTrace("there are 12, of three PLACES", Setups.line(16) + "function(3) = 0;" + twelve(256),
            "method(0, 4095, 0, 0) = NONE");
        b.leavesNoTrace("there are 12, and one for that", Setups.methods(13, 12), "method(0, 3, 0, 3) = NONE");
        b.holds("one went: there is room for one", Setups.methods(16, 12), "drop(0, 6) = 11; method(0, 12, 0, 0) = 6;"
            + "method(0, 13, 0, 0) = NONE; of(0, 1) = 4095");
    }

    private static String twelve(int unit) {
        StringBuilder s = new StringBuilder();
        for (int m = 0; m < 12; m++) {
            s.append("method(0, ").append(m * unit).append(", 0, 0) = ").append(m).append(';');
        }
        return s.toString();
    }

    private static void methodTaken() {
        b.sentence("Promise 7", "-2: there is one for that.");
        b.leavesNoTrace("the first METHOD", Setups.SQUARE, "method(0, 0x01, 0, 0) = -2");
        b.leavesNoTrace("the last METHOD", Setups.SQUARE, "method(0, 0x20, 0, 0) = -2");
        b.leavesNoTrace("the eleventh of eleven", Setups.methods(13, 11), "method(0, 10, 0, 0) = -2");
        b.leavesNoTrace("the twelfth, where the first one went", Setups.methods(13, 12) + "drop(0, 0) = 11",
            "method(0, 11, 0, 0) = -2");
        b.leavesNoTrace("with KEPT ones", Setups.SQUARE + "call(0, 0x01) = 0; call(0, 0x21) = -2",
            "method(0, 0x01, 3, 9) = -2");
        b.leavesNoTrace("by RULE 1", Setups.SQUARE + "rule() = 1; call(0, 0x21) = 0", "method(0, 0x20, 3, 9) = -2");
        b.holds("the one that is there keeps KIND and VALUE", Setups.SQUARE, "method(0, 0x01, 3, 9) = -2;"
            + "at(0, 0, 1) = 1; at(0, 0, 2) = 5");
    }

    private static void drop() {
        b.sentence("Promise 8", "A METHOD goes: how many the FUNCTION has.");
        b.holds("the only one", Setups.one(4, 2), "drop(0, 0) = 0; of(0, 1) = 0; count(3) = 0; answer(0, 0x33) = NONE");
        b.holds("the first and the last of twelve", Setups.methods(13, 12), "drop(0, 11) = 11; drop(0, 0) = 10;"
            + "of(0, 1) = 2046; answer(0, 0) = NONE; answer(0, 12) = 10");
        b.allowedFunctions("drop(?, 0) = 1");
        b.allowed("each of twelve", Setups.methods(12, 12), "drop(0, ?) = 11", 0, 1, 5, 10, 11);
        b.holds("all of twelve", Setups.methods(12, 12), "drop(0, 0) = 11; drop(0, 1) = 10; drop(0, 2) = 9;"
            + "drop(0, 3) = 8; drop(0, 4) = 7; drop(0, 5) = 6; drop(0, 6) = 5; drop(0, 7) = 4; drop(0, 8) = 3;"
            + "drop(0, 9) = 2; drop(0, 10) = 1; drop(0, 11) = 0; drop(0, 0) = NONE");
        b.holds("of its FUNCTION only", Setups.FOUR, "drop(3, 0) = 1; of(3, 1) = 2; of(0, 1) = 3; of(2, 1) = 3;"
            + "count(3) = 7");
        b.sentence("Promise 8", "NONE: there is none such.");
        b.refusedFunctions("drop(?, 0) = NONE");
        b.refusedMethods("drop(0, ?) = NONE");
        b.leavesNoTrace("with KEPT ones", Setups.SQUARE + "call(0, 0) = NONE; call(0, 1) = 0", "drop(0, 2) = NONE");
        b.leavesNoTrace("one that went, with KEPT ones", Setups.SQUARE + "drop(0, 0) = 1; call(0, 1) = NONE;"
            + "call(0, 0x21) = 1", "drop(0, 0) = NONE");
    }

    private static void rule() {
        b.sentence("Promise 9", "RULE is the other one: which it is then.");
        b.holds("1, then 0, then 1", "count(2) = 0; rule() = 1; count(2) = 1; rule() = 0; count(2) = 0; rule() = 1");
        b.holds("for all FUNCTIONS, one that comes later, too", Setups.SQUARE, "rule() = 1; function(2) = 1;"
            + "method(1, 0x01, 0, 0) = 0; method(1, 0x20, 0, 0) = 1; answer(0, 0x21) = 0; answer(1, 0x21) = 0;"
            + "rule() = 0; answer(0, 0x21) = -2; answer(1, 0x21) = -2");
        b.holds("it leaves HITS, MISSES, METHODS and CLASSES", Setups.SQUARE, "call(0, 0); call(0, 0); rule() = 1;"
            + "count(0) = 4; count(1) = 1; count(3) = 2; count(4) = 1; count(5) = 1; count(6) = 0");
    }

    private static void count() {
        b.sentence("Promise 10", "NONE for another what.");
        b.holds("the first and the last what", Setups.FOUR, "count(0) = 4; count(6) = 0");
        b.refused("too small", Setups.FOUR, "count(?) = NONE", -1, -2, -7, LEAST);
        b.refused("too large", Setups.FOUR, "count(?) = NONE", 7, 8, 16, 32, MOST);
        for (int what = 0; what < 7; what++) {
            b.leavesNoTrace("asking changes nothing", Setups.FOUR + "call(2, 0x33) = -2; call(2, 0x33) = -2",
                "count(" + what + ") = " + new int[] {4, 4, 0, 8, 1, 1, 1}[what]);
        }
    }

    private static void countMost() {
        b.sentence("Promise 10", "What 0: CLASSES, 1: FUNCTIONS, 2: RULE, 3: METHODS of all, 4: HITS, 5: MISSES, 6:"
            + " KEPT ones of all.");
        b.holds("the most CLASSES", Setups.flat(16), "count(0) = 16; kind(0, NONE, NONE) = NONE; count(0) = 16");
        b.holds("the most FUNCTIONS", Setups.FOUR, "count(1) = 4; function(1) = NONE; count(1) = 4");
        b.holds("both RULES", "count(2) = 0; rule(); count(2) = 1; rule(); count(2) = 0");
        StringBuilder all = new StringBuilder(Setups.line(12));
        for (int f = 0; f < 4; f++) {
            all.append("function(1) = ").append(f).append(';');
            for (int m = 0; m < 12; m++) {
                all.append("method(").append(f).append(", ").append(m).append(", 0, 0) = ").append(m).append(';');
            }
        }
        b.holds("the most METHODS", all.toString(), "count(3) = 48; method(3, 0, 0, 0) = NONE; count(3) = 48;"
            + "drop(3, 11) = 11; count(3) = 47");
        b.holds("HITS: the first one", Setups.SQUARE, "call(0, 1); count(4) = 0; call(0, 1); count(4) = 1");
        b.holds("HITS of all FUNCTIONS, and MISSES", Setups.FOUR, "call(0, 1); call(3, 1); call(0, 1); call(3, 1);"
            + "call(3, 1); count(4) = 3; count(5) = 2; count(6) = 2");
        b.holds("HITS and MISSES stay where KEPT ones go", Setups.FOUR,
            "call(0, 1); call(0, 1); drop(0, 0); count(6) = 0;"
            + "count(4) = 1; count(5) = 1; rule(); count(4) = 1; count(5) = 1");
        StringBuilder asked = new StringBuilder(Setups.FOUR);
        for (int f = 0; f < 4; f++) {
            for (int call = 0; call < 7; call++) {
                asked.append("call(").append(f).append(", ").append(call / 4 * 16 + call % 4).append(");");
            }
        }
        b.holds("the most KEPT ones", asked.toString(), "count(6) = 24; count(5) = 28; count(4) = 0; call(0, 0x33);"
            + "count(6) = 24");
    }

    private static void of() {
        b.sentence("Promise 11", "NONE: there is none such, another what.");
        b.holds("the first and the last what", Setups.SQUARE, "of(0, 0) = 2; of(0, 9) = 0; call(0, 0); of(0, 9) = 1");
        b.holds("the first and the last FUNCTION", Setups.FOUR, "drop(0, 0); drop(3, 1); of(0, 1) = 2; of(3, 1) = 1");
        b.refused("another what, too small", Setups.SQUARE, "of(0, ?) = NONE", -1, -2, -10, LEAST);
        b.refused("another what, too large", Setups.SQUARE, "of(0, ?) = NONE", 10, 11, 16, 32, MOST);
        b.allowedFunctions("of(?, 1) = 3");
        for (int what = 0; what < 10; what++) {
            b.refusedFunctions("of(?, " + what + ") = NONE");
            b.leavesNoTrace("asking changes nothing", Setups.SQUARE + "call(0, 0x21) = -2; call(0, 0) = NONE",
                "of(0, " + what + ") = " + new int[] {2, 3, 16, 4, 4, 1, 1, 4, 0, 2}[what]);
            b.leavesNoTrace("asking changes nothing by RULE 1", Setups.SQUARE + "rule() = 1; call(0, 0x21) = 0",
                "of(0, " + what + ") = " + new int[] {2, 3, 16, 4, 4, 1, 1, 4, 0, 1}[what]);
        }
    }

    private static void ofMethods() {
        b.sentence("Promise 11", "what 0: PLACES, 1: METHODS, as bits, 2: CALLS that there are,");
        b.holds("PLACES, from 1 to 3", "function(1); function(2); function(3); of(0, 0) = 1; of(1, 0) = 2;"
            + "of(2, 0) = 3");
        b.holds("METHODS: none", Setups.DIAMOND, "function(1); of(0, 1) = 0");
        b.holds("METHODS: the first and the last bit", Setups.methods(12, 12), "of(0, 1) = 4095; drop(0, 0);"
            + "of(0, 1) = 4094; drop(0, 11); of(0, 1) = 2046");
        b.holds("CALLS of one CLASS",
            "function(1); function(2); function(3); of(0, 2) = 1; of(1, 2) = 1; of(2, 2) = 1");
        b.holds("CALLS of fifteen and sixteen CLASSES", Setups.line(15), "function(1); function(2); function(3);"
            + "of(0, 2) = 15; of(1, 2) = 225; of(2, 2) = 3375; kind(0, NONE, NONE) = 15; of(0, 2) = 16;"
            + "of(1, 2) = 256; of(2, 2) = 4096");
        b.holds("CALLS where a CLASS was REFUSED", Setups.SQUARE, "kind(0, 1, NONE) = -2; of(0, 2) = 16");
    }

    private static void ofCalls() {
        b.sentence("Promise 11", "3: those with ANSWER NONE,");
        b.holds("all, without METHODS", Setups.line(16), "function(3); of(0, 3) = 4096");
        b.holds("none, with a METHOD for the CALL 0", Setups.one(16, 3), "of(0, 3) = 0");
        b.holds("all but one, with a METHOD for the last CALL", Setups.line(16), "function(3);"
            + "method(0, 0xFFF, 0, 0) = 0; of(0, 3) = 4095");
        b.holds("AMBIGUOUS ones are not among them", Setups.SQUARE, "of(0, 3) = 4; rule(); of(0, 3) = 4");
        b.holds("a new CLASS brings more", Setups.SQUARE, "of(0, 3) = 4; kind(0, NONE, NONE); of(0, 3) = 9");
        b.holds("where a METHOD comes and goes", Setups.SQUARE, "of(0, 3) = 4; method(0, 0, 0, 0) = 2; of(0, 3) = 0;"
            + "drop(0, 2) = 2; of(0, 3) = 4; drop(0, 0) = 1; of(0, 3) = 8; drop(0, 1) = 0; of(0, 3) = 16");
        b.sentence("Promise 11", "6: GAPS,");
        b.holds("one at most", Setups.line(16), "function(3); of(0, 6) = 1; method(0, 0, 0, 0); of(0, 6) = 0;"
            + "drop(0, 0); of(0, 6) = 1");
        b.sentence("Promise 11", "9: KEPT ones.");
        b.holds("none, six, six of seven", Setups.one(16, 1), "of(0, 9) = 0; call(0, 0); call(0, 1); call(0, 2);"
            + "call(0, 3); call(0, 4); of(0, 9) = 5; call(0, 5); of(0, 9) = 6; call(0, 6); of(0, 9) = 6; rule();"
            + "of(0, 9) = 0");
    }

    private static void ofAmbiguous() {
        b.sentence("Promise 11", "4: AMBIGUOUS ones (by RULE 0, whatever RULE there is), 5: CLASHES,");
        b.holds("none", Setups.one(16, 3), "of(0, 4) = 0; of(0, 5) = 0");
        b.holds("by RULE 1, too", Setups.SQUARE, "of(0, 4) = 4; of(0, 5) = 1; rule() = 1; of(0, 4) = 4;"
            + "of(0, 5) = 1");
        b.holds("twelve METHODS across", Setups.crossing(12), "of(0, 4) = 66; of(0, 5) = 11; of(0, 3) = 66");
        b.holds("one CALL, a single one", Setups.DIAMOND, "function(1); method(0, 1, 0, 0); of(0, 4) = 0;"
            + "method(0, 2, 0, 0); of(0, 4) = 1; of(0, 5) = 1; method(0, 3, 0, 0); of(0, 4) = 0; of(0, 5) = 0");
        b.holds("as many CLASHES as MEETS", Setups.meets(13), "of(0, 4) = 13; of(0, 5) = 13");
        b.holds("each CALL but those at 0", Setups.line(16), "function(3); method(0, 1, 0, 0); method(0, 0x10, 0, 0);"
            + "method(0, 0x100, 0, 0); of(0, 3) = 1; of(0, 4) = 4050; of(0, 5) = 3");
    }

    private static void ofTables() {
        b.sentence("Promise 11", "7: SIZE of its TABLE, 8: IDLE METHODS, as bits,");
        b.holds("1, with one CLASS", "function(3); of(0, 7) = 1; method(0, 0, 0, 0); of(0, 7) = 1; of(0, 8) = 0");
        b.holds("1, with METHODS for none or all", Setups.line(16), "function(3); of(0, 7) = 1; method(0, 0, 0, 0);"
            + "of(0, 7) = 1");
        b.holds("with as many CALLS as can be", Setups.one(16, 3), "of(0, 7) = 1; of(0, 8) = 0; rule() = 1;"
            + "of(0, 7) = 1; of(0, 8) = 0");
        b.holds("by the RULE that there is", Setups.meets(2), "of(0, 7) = 4; rule(); of(0, 7) = 3; rule();"
            + "of(0, 7) = 4");
        b.holds("twelve METHODS at one PLACE", Setups.methods(16, 12), "of(0, 7) = 12; drop(0, 0); of(0, 7) = 12;"
            + "drop(0, 11); of(0, 7) = 11");
        b.holds("twelve METHODS across", Setups.crossing(12), "of(0, 7) = 144; of(0, 8) = 0; rule(); of(0, 8) = 0");
        b.holds("where a METHOD comes and goes", Setups.DIAMOND, "function(1); of(0, 7) = 1; method(0, 3, 0, 0);"
            + "of(0, 7) = 2; kind(3, NONE, NONE); of(0, 7) = 2; drop(0, 0); of(0, 7) = 1");
        b.holds("no METHOD is IDLE, the last bit neither", Setups.methods(12, 12),
            "of(0, 8) = 0; rule(); of(0, 8) = 0");
    }

    private static void at() {
        b.sentence("Promise 12", "NoSuchElementException: there is none such, another what.");
        for (int what = 0; what < 5; what++) {
            b.refusedFunctions("at(?, 0, " + what + ") = throws");
            b.refusedMethods("at(0, ?, " + what + ") = throws");
            b.leavesNoTrace("asking changes nothing", Setups.SQUARE + "call(0, 0x21) = -2",
                "at(0, 1, " + what + ") = " + new int[] {32, 0, 7, 4, 8}[what]);
        }
        b.refused("another what, too small", Setups.SQUARE, "at(0, 0, ?) = throws", -1, -2, -5, LEAST);
        b.refused("another what, too large", Setups.SQUARE, "at(0, 0, ?) = throws", 5, 6, 16, 32, MOST);
        b.holds("the first and the last what", Setups.SQUARE, "at(0, 1, 0) = 0x20; at(0, 1, 4) = 8");
        b.allowedFunctions("at(?, 1, 2) = 7");
        b.allowed("each of twelve", Setups.methods(12, 12), "at(0, ?, 0) = ?", 0, 1, 5, 10, 11);
        b.holds("the first and the last METHOD", Setups.methods(12, 12), "at(0, 0, 0) = 0; at(0, 11, 0) = 11;"
            + "at(0, 0, 2) = 0; at(0, 11, 2) = 11");
        b.holds("the first and the last FUNCTION", Setups.FOUR, "at(0, 0, 2) = 5; at(3, 1, 2) = 7");
    }

    private static void atCalls() {
        b.sentence("Promise 12", "what 0: what it is for, 1: KIND, 2: VALUE, 3: of how many CALLS it is the ANSWER, 4:"
            + " to how many it is APPLICABLE.");
        b.holds("what it is for: the least and the last number", Setups.line(16), "function(3); method(0, 0, 0, 0);"
            + "method(0, 4095, 0, 0); at(0, 0, 0) = 0; at(0, 1, 0) = 4095");
        b.holds("KIND, VALUE: the least and the most", Setups.line(2), "function(1); method(0, 0, 0, -999);"
            + "method(0, 1, 3, 999); at(0, 0, 1) = 0; at(0, 0, 2) = -999; at(0, 1, 1) = 3; at(0, 1, 2) = 999");
        b.holds("of all CALLS, to all", Setups.one(16, 3), "at(0, 0, 3) = 4096; at(0, 0, 4) = 4096");
        b.holds("of all but one, to all; and of that one", Setups.one(16, 3), "method(0, 4095, 0, 0) = 1;"
            + "at(0, 0, 3) = 4095; at(0, 0, 4) = 4096; at(0, 1, 3) = 1; at(0, 1, 4) = 1");
        b.holds("AMBIGUOUS ones are of none, and count by RULE 1", Setups.SQUARE, "at(0, 0, 3) = 4; at(0, 1, 3) = 4;"
            + "at(0, 0, 4) = 8; at(0, 1, 4) = 8; rule(); at(0, 0, 3) = 8; at(0, 1, 3) = 4; at(0, 1, 4) = 8");
        b.holds("with one CLASS", "function(3); method(0, 0, 0, 0); at(0, 0, 3) = 1; at(0, 0, 4) = 1");
        b.holds("of one that has the number of one that went", Setups.SQUARE, "at(0, 0, 3) = 4; drop(0, 0);"
            + "method(0, 0x33, 2, 3) = 0; at(0, 0, 0) = 0x33; at(0, 0, 1) = 2; at(0, 0, 2) = 3; at(0, 0, 3) = 1;"
            + "at(0, 0, 4) = 1; at(0, 1, 3) = 7");
    }
}
