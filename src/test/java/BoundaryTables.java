/** The boundary cases that promises 20 to 25 name: clashes, gaps and tables. */
public final class BoundaryTables {
    private static final int LEAST = Bench.LEAST;
    private static final int MOST = Bench.MOST;

    private static final String ASKED = Setups.SQUARE + "call(0, 0x00) = NONE; call(0, 0x21) = -2; call(0, 0x01) = 0;";

    /** One CLASH (3) and eleven METHODS: for 1, for 2, and for nine CLASSES that meet none. */
    private static final String ELEVEN = Setups.DIAMOND + nineMore();

    private static Bench b;

    public static void main(String[] args) {
        b = new Bench(args);
        clash();
        gap();
        fight();
        fightNone();
        pole();
        change();
        changeRefused();
        settle();
        settleRoom();
        b.end();
    }

    private static String nineMore() {
        StringBuilder s = new StringBuilder();
        for (int c = 4; c < 13; c++) {
            s.append("kind(0, NONE, NONE) = ").append(c).append(';');
        }
        s.append("function(1) = 0; method(0, 1, 0, 0) = 0; method(0, 2, 0, 0) = 1;");
        for (int c = 4; c < 13; c++) {
            s.append("method(0, ").append(c).append(", 0, 0) = ").append(c - 2).append(';');
        }
        return s.toString();
    }

    private static void clash() {
        b.sentence("Promise 20", "The k-th CLASH, rising as numbers.");
        b.holds("the only one", Setups.SQUARE, "clash(0, 0) = 0x21; clash(0, 1) = NONE");
        b.holds("the first and the last of thirteen", Setups.meets(13), "clash(0, 0) = 3; clash(0, 12) = 15");
        b.holds("the first and the last of eleven, rising", Setups.crossing(12), "clash(0, 0) = 0x1B;"
            + "clash(0, 1) = 0x2A; clash(0, 9) = 0xA2; clash(0, 10) = 0xB1");
        b.holds("the last CALL that there is", Setups.line(16), "function(3); method(0, 0x00F, 0, 0);"
            + "method(0, 0xFF0, 0, 0); clash(0, 0) = 0xFFF; of(0, 5) = 1");
        b.holds("the first and the last FUNCTION", Setups.FOUR, "drop(3, 1); clash(0, 0) = 0x21; clash(3, 0) = NONE;"
            + "clash(2, 0) = 0x21");
        b.holds("by RULE 1, too", Setups.SQUARE, "rule(); clash(0, 0) = 0x21; clash(0, 1) = NONE");
        b.leavesNoTrace("asking changes nothing", ASKED, "clash(0, 0) = 0x21");
        b.sentence("Promise 20", "NONE: there is no such FUNCTION, not so many.");
        b.allowedFunctions("clash(?, 0) = 0x21");
        b.refusedFunctions("clash(?, 0) = NONE");
        b.refused("not so many, of none", Setups.one(4, 2), "clash(0, ?) = NONE", 0, 1, MOST);
        b.refused("not so many, of none without METHODS", Setups.DIAMOND + "function(2)", "clash(0, ?) = NONE", 0, 1);
        b.refused("not so many, of one", Setups.SQUARE, "clash(0, ?) = NONE", 1, 2, 16, 32, MOST);
        b.refused("not so many, of eleven", Setups.crossing(12), "clash(0, ?) = NONE", 11, 12, MOST);
        b.refused("not so many, of thirteen", Setups.meets(13), "clash(0, ?) = NONE", 13, 14, 16);
        b.refused("too small", Setups.SQUARE, "clash(0, ?) = NONE", -1, -2, -16, LEAST);
        b.refused("too small, of none", Setups.one(4, 2), "clash(0, ?) = NONE", -1, -2);
    }

    private static void gap() {
        b.sentence("Promise 21", "The k-th GAP, rising as numbers.");
        b.holds("the only one", Setups.SQUARE, "gap(0, 0) = 0; gap(0, 1) = NONE");
        b.holds("with one CLASS", "function(3); gap(0, 0) = 0; method(0, 0, 0, 0); gap(0, 0) = NONE; drop(0, 0);"
            + "gap(0, 0) = 0");
        b.holds("of sixteen CLASSES without METHODS", Setups.line(16), "function(3); gap(0, 0) = 0; gap(0, 1) = NONE");
        b.holds("the first and the last FUNCTION", Setups.FOUR, "method(0, 0, 0, 0); gap(0, 0) = NONE; gap(3, 0) = 0;"
            + "method(3, 0, 0, 0); gap(3, 0) = NONE; gap(2, 0) = 0");
        b.holds("by RULE 1, too", Setups.SQUARE, "rule(); gap(0, 0) = 0; gap(0, 1) = NONE");
        b.leavesNoTrace("asking changes nothing", ASKED, "gap(0, 0) = 0");
        b.sentence("Promise 21", "NONE: likewise.");
        b.allowedFunctions("gap(?, 0) = 0");
        b.refusedFunctions("gap(?, 0) = NONE");
        b.refused("not so many, of none", Setups.one(4, 2), "gap(0, ?) = NONE", 0, 1, MOST);
        b.refused("not so many, of one", Setups.SQUARE, "gap(0, ?) = NONE", 1, 2, 3, 16, 32, MOST);
        b.refused("not so many, of one without METHODS", Setups.line(16) + "function(3)", "gap(0, ?) = NONE", 1, 2);
        b.refused("too small", Setups.SQUARE, "gap(0, ?) = NONE", -1, -2, -16, LEAST);
        b.refused("too small, of none", Setups.one(4, 2), "gap(0, ?) = NONE", -1, -2);
    }

    private static void fight() {
        b.sentence("Promise 22", "The least CALL in which two METHODS FIGHT.");
        b.holds("either one first", Setups.SQUARE, "fight(0, 0, 1) = 0x21; fight(0, 1, 0) = 0x21");
        b.holds("the first and the last METHOD of twelve", Setups.crossing(12), "fight(0, 0, 11) = 0xBB;"
            + "fight(0, 11, 0) = 0xBB; fight(0, 0, 1) = 0xB1; fight(0, 10, 11) = 0x1B");
        b.holds("in the last CALL that there is", Setups.line(16), "function(3); method(0, 0x00F, 0, 0);"
            + "method(0, 0xFF0, 0, 0); fight(0, 0, 1) = 0xFFF");
        b.holds("the least one of many", Setups.meets(13), "fight(0, 0, 1) = 3; method(0, 3, 0, 0);"
            + "fight(0, 0, 1) = 4; method(0, 15, 0, 0); fight(0, 0, 1) = 4");
        b.holds("the first and the last FUNCTION", Setups.FOUR, "drop(3, 1); fight(0, 0, 1) = 0x21;"
            + "fight(3, 0, 1) = NONE; fight(2, 0, 1) = 0x21");
        b.holds("by RULE 1, too", Setups.SQUARE, "rule(); fight(0, 0, 1) = 0x21");
        b.leavesNoTrace("asking changes nothing", ASKED, "fight(0, 0, 1) = 0x21");
    }

    private static void fightNone() {
        b.sentence("Promise 22", "NONE: they do in none;");
        b.leavesNoTrace("no CALL takes both", Setups.flat(3) + "function(1); method(0, 1, 0, 0); method(0, 2, 0, 0)",
            "fight(0, 0, 1) = NONE");
        b.leavesNoTrace("one is AT MOST the other one", Setups.methods(12, 12), "fight(0, 0, 11) = NONE");
        b.leavesNoTrace("one is AT MOST the other one", Setups.methods(12, 12), "fight(0, 11, 10) = NONE");
        b.leavesNoTrace("a third one is AT MOST both wherever both are", Setups.SQUARE + "method(0, 0x21, 0, 0) = 2",
            "fight(0, 0, 1) = NONE");
        b.sentence("Promise 22", "there are none such;");
        b.allowedFunctions("fight(?, 0, 1) = 0x21");
        b.refusedFunctions("fight(?, 0, 1) = NONE");
        b.refusedMethods("fight(0, ?, 0) = NONE");
        b.refusedMethods("fight(0, 0, ?) = NONE");
        b.refused("the first one is none such", Setups.SQUARE, "fight(0, ?, 1) = NONE", -1, 2, 12, 32, 64, -32, LEAST,
            MOST);
        b.refused("the other one is none such", Setups.SQUARE, "fight(0, 0, ?) = NONE", -1, 2, 12, 33, 65, -31, LEAST,
            MOST);
        b.leavesNoTrace("one of them went", Setups.SQUARE + "drop(0, 0) = 1", "fight(0, 0, 1) = NONE");
        b.leavesNoTrace("the other one went", Setups.SQUARE + "drop(0, 1) = 1", "fight(0, 0, 1) = NONE");
        b.sentence("Promise 22", "they are one.");
        b.leavesNoTrace("the first", Setups.SQUARE, "fight(0, 0, 0) = NONE");
        b.leavesNoTrace("the second", Setups.SQUARE, "fight(0, 1, 1) = NONE");
        b.leavesNoTrace("the last of twelve", Setups.crossing(12), "fight(0, 11, 11) = NONE");
        b.leavesNoTrace("none such, twice", Setups.SQUARE, "fight(0, 2, 2) = NONE");
    }

    private static void pole() {
        b.sentence("Promise 23", "POLE of a CLASS at a PLACE.");
        b.holds("the first and the last CLASS", Setups.methods(16, 12), "pole(0, 0, 0) = 0; pole(0, 0, 11) = 11;"
            + "pole(0, 0, 12) = 11; pole(0, 0, 15) = 11");
        b.holds("the first and the last PLACE", Setups.line(16), "function(3); method(0, 0xF31, 0, 0);"
            + "pole(0, 0, 1) = 1; pole(0, 0, 15) = 1; pole(0, 1, 2) = 0; pole(0, 1, 15) = 3; pole(0, 2, 14) = 0;"
            + "pole(0, 2, 15) = 15");
        b.holds("the first and the last FUNCTION", Setups.FOUR, "drop(3, 0); pole(0, 0, 3) = 1; pole(3, 0, 3) = 0");
        b.holds("by the RULE that there is", Setups.meets(1), "pole(0, 0, 3) = 3; rule(); pole(0, 0, 3) = 1; rule();"
            + "pole(0, 0, 3) = 3");
        b.holds("of a CLASS that came later", Setups.SQUARE, "pole(0, 0, 3) = 1; kind(3, NONE, NONE) = 4;"
            + "pole(0, 0, 4) = 1; kind(2, NONE, NONE) = 5; pole(0, 0, 5) = 0; pole(0, 1, 5) = 2");
        b.holds("where another FUNCTION was asked between", Setups.FOUR, "drop(1, 0); pole(0, 0, 1) = 1;"
            + "pole(1, 0, 1) = 0; pole(0, 0, 1) = 1; of(1, 7) = 2; pole(0, 0, 1) = 1; of(0, 7) = 4");
        b.holds("where a FUNCTION of more PLACES was asked between", Setups.SQUARE, "function(1) = 1; of(0, 7) = 4;"
            + "pole(1, 0, 3) = 0; function(3) = 2; method(2, 0x131, 0, 0) = 0; pole(2, 2, 3) = 1; pole(0, 1, 3) = 2;"
            + "pole(1, 0, 2) = 0; of(0, 7) = 4; of(1, 7) = 1");
        b.leavesNoTrace("asking changes nothing", ASKED, "pole(0, 0, 3) = 1");
        b.sentence("Promise 23", "NONE: there are none such.");
        b.allowedFunctions("pole(?, 0, 3) = 1");
        b.allowed("each PLACE of one", Setups.one(4, 1), "pole(0, ?, 3) = 0", 0);
        b.allowed("each PLACE of two", Setups.one(4, 2), "pole(0, ?, 3) = 0", 0, 1);
        b.allowed("each PLACE of three", Setups.one(4, 3), "pole(0, ?, 3) = 0", 0, 1, 2);
        b.allowed("the first and the last CLASS of twelve", Setups.methods(12, 12), "pole(0, 0, ?) = ?", 0, 11);
        b.refusedFunctions("pole(?, 0, 0) = NONE");
        b.refusedClasses("pole(0, 0, ?) = NONE");
        b.refused("no such PLACE, of one", Setups.one(4, 1), "pole(0, ?, 0) = NONE", -1, 1, 2, 3, 4, LEAST, MOST);
        b.refused("no such PLACE, of two", Setups.one(4, 2), "pole(0, ?, 0) = NONE", -2, -1, 2, 3, 4, 8, LEAST, MOST);
        b.refused("no such PLACE, of three", Setups.one(4, 3), "pole(0, ?, 0) = NONE", -1, 3, 4, 8, 16, 32, LEAST,
            MOST);
        b.refused("no such CLASS at the last PLACE", Setups.one(4, 3), "pole(0, 2, ?) = NONE", -1, 4, 15, 16, LEAST,
            MOST);
    }

    private static void change() {
        b.sentence("Promise 24",
            "How many CALLS would have another ANSWER, were there a METHOD more for some CLASSES.");
        b.holds("all of them", Setups.line(16), "function(3); change(0, 0) = 4096");
        b.holds("the last one only", Setups.one(16, 3), "change(0, 4095) = 1");
        b.holds("the one that there is", "function(3); change(0, 0) = 1");
        b.holds("from NONE, to AMBIGUOUS, from AMBIGUOUS", Setups.SQUARE, "change(0, 0x00) = 4; change(0, 0x02) = 6;"
            + "change(0, 0x21) = 4; change(0, 0x33) = 1");
        b.holds("AMBIGUOUS before and after is no other ANSWER", Setups.SQUARE,
            "change(0, 0x03) = 2; change(0, 0x30) = 2;"
            + "change(0, 0x10) = 6");
        b.holds("by the RULE that there is", Setups.SQUARE, "rule(); change(0, 0x02) = 4; change(0, 0x00) = 4;"
            + "change(0, 0x03) = 4; rule(); change(0, 0x02) = 6");
        b.holds("of twelve METHODS, too", Setups.methods(16, 12), "change(0, 12) = 4; change(0, 15) = 1; rule();"
            + "change(0, 12) = 4; change(0, 15) = 1");
        b.holds("the first and the last FUNCTION", Setups.FOUR, "drop(3, 0); drop(3, 1); change(0, 0) = 4;"
            + "change(3, 0) = 16");
        b.leavesNoTrace("the METHOD does not come", ASKED, "change(0, 0x21) = 4");
        b.leavesNoTrace("the METHOD does not come, for the CALL 0", ASKED, "change(0, 0) = 4");
        b.leavesNoTrace("the METHOD does not come, of twelve", Setups.methods(16, 12) + "call(0, 15) = 11",
            "change(0, 12) = 4");
    }

    private static void changeRefused() {
        b.sentence("Promise 24", "NONE: there are none such;");
        b.allowedFunctions("change(?, 0) = 4");
        b.allowedTargets("change(0, ?) = 1");
        b.refusedFunctions("change(?, 0) = NONE");
        b.refusedCalls("change(0, ?) = NONE");
        b.sentence("Promise 24", "-2: there is one for that.");
        b.leavesNoTrace("the first METHOD", ASKED, "change(0, 0x01) = -2");
        b.leavesNoTrace("the last METHOD", ASKED, "change(0, 0x20) = -2");
        b.leavesNoTrace("for the CALL 0", Setups.one(4, 3), "change(0, 0) = -2");
        b.leavesNoTrace("for the last CALL", Setups.line(16) + "function(3); method(0, 4095, 0, 0) = 0",
            "change(0, 4095) = -2");
        b.leavesNoTrace("the first of twelve", Setups.methods(13, 12), "change(0, 0) = -2");
        b.leavesNoTrace("the last of twelve", Setups.methods(13, 12), "change(0, 11) = -2");
        b.leavesNoTrace("by RULE 1", ASKED + "rule() = 1", "change(0, 0x01) = -2");
        b.holds("it went, so there is none", Setups.SQUARE, "drop(0, 0) = 1; change(0, 0x01) = 8;"
            + "change(0, 0x20) = -2");
        b.holds("there is one for that in another FUNCTION", Setups.SQUARE, "function(2) = 1; change(1, 0x01) = 8;"
            + "change(0, 0x01) = -2");
    }

    private static void settle() {
        b.sentence("Promise 25", "each for a CLASH or what is one then, of least number each time, till there is no"
            + " CLASH: how many;");
        b.holds("0: without METHODS", Setups.line(16), "function(3); settle(0) = 0");
        b.holds("0: there is no CLASH", Setups.methods(16, 11), "settle(0) = 0");
        b.holds("0: there is no CLASH, of twelve METHODS", Setups.methods(16, 12), "settle(0) = 0");
        b.holds("one", Setups.SQUARE, "settle(0) = 1; method(0, 0x21, 0, 0); settle(0) = 0");
        b.holds("one for what is a CLASH then", Setups.crossing(3), "of(0, 5) = 2; settle(0) = 3");
        b.holds("six: three at first, three for what is one then", Setups.crossing(4), "of(0, 5) = 3; settle(0) = 6");
        b.holds("a CLASH that another one covers", Setups.meets(2), "kind(3, 4, NONE) = 5; of(0, 5) = 2;"
            + "settle(0) = 3; method(0, 3, 0, 0); settle(0) = 2; method(0, 5, 0, 0); settle(0) = 1");
        b.holds("by RULE 1, too", Setups.crossing(3), "rule(); settle(0) = 3; rule(); settle(0) = 3");
        b.holds("the first and the last FUNCTION", Setups.FOUR, "drop(3, 0); settle(0) = 1; settle(3) = 0;"
            + "settle(2) = 1");
        b.leavesNoTrace("no METHOD comes", ASKED, "settle(0) = 1");
        b.leavesNoTrace("no METHOD comes, of six", Setups.crossing(4) + "call(0, 0xBB) = -2", "settle(0) = 6");
        b.sentence("Promise 25", "-2: more than there is room for.");
        b.holds("just as many as there is room for, of two METHODS", Setups.meets(10), "settle(0) = 10");
        b.leavesNoTrace("one more, of two METHODS", Setups.meets(11), "settle(0) = -2");
        b.leavesNoTrace("more for what is a CLASH then", Setups.crossing(5) + "call(0, 0xBB) = -2", "settle(0) = -2");
        b.leavesNoTrace("twelve METHODS and eleven CLASHES", Setups.crossing(12), "settle(0) = -2");
        b.leavesNoTrace("by RULE 1, too", Setups.meets(11) + "rule() = 1; call(0, 3) = 0", "settle(0) = -2");
    }

    private static void settleRoom() {
        b.holds("one CLASH, eleven METHODS", ELEVEN, "of(0, 5) = 1; settle(0) = 1");
        b.leavesNoTrace("one CLASH, twelve METHODS", ELEVEN + "method(0, 0, 0, 0) = 11; call(0, 3) = -2",
            "settle(0) = -2");
        b.leavesNoTrace("two CLASHES, eleven METHODS", ELEVEN + "kind(4, 5, NONE) = 13", "settle(0) = -2");
        b.holds("one went: there is room again", ELEVEN, "method(0, 0, 0, 0) = 11; settle(0) = -2; drop(0, 5) = 11;"
            + "settle(0) = 1; drop(0, 11) = 10; settle(0) = 1");
        b.holds("one of those that FIGHT went: no more is needed", ELEVEN, "method(0, 0, 0, 0) = 11; settle(0) = -2;"
            + "drop(0, 1) = 11; settle(0) = 0; method(0, 3, 0, 0) = 1; settle(0) = 0");
        b.sentence("Promise 25", "NONE: there is no such FUNCTION.");
        b.allowedFunctions("settle(?) = 1");
        b.refusedFunctions("settle(?) = NONE");
    }
}
