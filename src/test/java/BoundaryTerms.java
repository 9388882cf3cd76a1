/** The boundary cases that the document's Terms name. */
public final class BoundaryTerms {
    private static Bench b;

    public static void main(String[] args) {
        b = new Bench(args);
        classes();
        parents();
        lists();
        functions();
        methods();
        freeNumbers();
        noTwoForTheSame();
        valuesAndKinds();
        applicable();
        answers();
        chains();
        workedOut();
        wrapping();
        meetsAndBelow();
        clashesFightsGaps();
        polesAndIdle();
        kept();
        keptOldest();
        keptDropped();
        b.end();
    }

    private static void classes() {
        b.sentence("Terms", "CLASSES, at most 16, numbered from 0 on");
        b.holds("the sixteenth one comes, with number 15", Setups.line(15),
            "kind(14, NONE, NONE) = 15; count(0) = 16; is(15, 0) = true; is(15, 15) = true; list(15, NONE) = 16;"
            + "list(15, 15) = 0");
        b.holds("the sixteenth one comes with three PARENTS", Setups.flat(15),
            "kind(14, 1, 13) = 15; list(15, NONE) = 5; is(15, 13) = true; is(15, 12) = false");
        b.leavesNoTrace("a seventeenth one does not come", Setups.line(16), "kind(15, NONE, NONE) = NONE");
        b.leavesNoTrace("a seventeenth one does not come", Setups.flat(16), "kind(0, NONE, NONE) = NONE");
        b.leavesNoTrace("a seventeenth one does not come", Setups.flat(16), "kind(1, 2, NONE) = NONE");
        b.leavesNoTrace("a seventeenth one does not come", Setups.flat(16), "kind(15, 14, 13) = NONE");
        b.holds("what was REFUSED is not one of the 16", Setups.DIAMOND, Setups.times(20, "kind(0, 1, NONE) = -2;"),
            "kind(0, NONE, NONE) = 4;", Setups.times(10, "kind(0, 1, NONE) = -2; kind(3, NONE, NONE);"),
            "count(0) = 15; kind(14, NONE, NONE) = 15; kind(14, NONE, NONE) = NONE; count(0) = 16");
        b.sentence("Terms", "0 is there at first (without PARENTS).");
        b.holds("it is there, and it is all that it is", "count(0) = 1; is(0, 0) = true; list(0, NONE) = 1;"
            + "list(0, 0) = 0; list(0, 1) = NONE; meet(0, 0, NONE) = 1; meet(0, 0, 0) = 0");
        b.holds("1 is not there at first", "is(1, 0) = false; is(0, 1) = false; is(1, 1) = false;"
            + "list(1, NONE) = NONE; meet(1, 1, NONE) = NONE");
    }

    private static void parents() {
        b.sentence("Terms", "Another one has 1 to 3 PARENTS, unlike, in an order.");
        b.leavesNoTrace("no PARENTS", Setups.DIAMOND, "kind(NONE, NONE, NONE) = NONE");
        b.holds("one PARENT", Setups.DIAMOND, "kind(2, NONE, NONE) = 4; list(4, NONE) = 3; is(4, 1) = false");
        b.holds("two PARENTS", Setups.flat(4), "kind(1, 3, NONE) = 4; is(4, 1) = true; is(4, 2) = false;"
            + "is(4, 3) = true; list(4, NONE) = 4");
        b.holds("three PARENTS", Setups.flat(4), "kind(1, 2, 3) = 4; is(4, 1) = true; is(4, 2) = true;"
            + "is(4, 3) = true; list(4, NONE) = 5");
        b.leavesNoTrace("the first two alike, of two", Setups.flat(4), "kind(1, 1, NONE) = NONE");
        b.leavesNoTrace("the first two alike", Setups.flat(4), "kind(1, 1, 2) = NONE");
        b.leavesNoTrace("the first and the last alike", Setups.flat(4), "kind(1, 2, 1) = NONE");
        b.leavesNoTrace("the last two alike", Setups.flat(4), "kind(2, 1, 1) = NONE");
        b.leavesNoTrace("all three alike", Setups.flat(4), "kind(1, 1, 1) = NONE");
        b.leavesNoTrace("alike, and 0", Setups.flat(4), "kind(0, 0, NONE) = NONE");
        b.leavesNoTrace("alike, and the last CLASS", Setups.flat(4), "kind(0, 3, 3) = NONE");
        b.holds("1 ahead of 2", Setups.flat(3), "kind(1, 2, NONE) = 3; list(3, 0) = 3; list(3, 1) = 1; list(3, 2) = 2;"
            + "list(3, 3) = 0; list(3, 4) = NONE");
        b.holds("2 ahead of 1", Setups.flat(3), "kind(2, 1, NONE) = 3; list(3, 0) = 3; list(3, 1) = 2; list(3, 2) = 1;"
            + "list(3, 3) = 0; list(3, 4) = NONE");
        b.holds("the order of three", Setups.flat(4), "kind(3, 1, 2) = 4; list(4, 1) = 3; list(4, 2) = 1;"
            + "list(4, 3) = 2; list(4, 4) = 0");
        b.sentence("Terms", "A CLASS IS itself, its PARENTS, and all that these are.");
        b.holds("itself", Setups.DIAMOND, "is(3, 3) = true; is(1, 1) = true");
        b.holds("each of three PARENTS, and what only the last one is", Setups.flat(4),
            "kind(3, NONE, NONE) = 4; kind(1, 2, 4) = 5; is(5, 1) = true; is(5, 2) = true; is(5, 4) = true;"
            + "is(5, 3) = true; is(5, 0) = true; is(4, 5) = false; is(3, 4) = false; is(0, 1) = false");
        b.holds("the farthest one", Setups.line(16), "is(15, 0) = true; is(0, 15) = false; is(14, 15) = false");
    }

    private static void lists() {
        b.sentence("Terms", "as long as any of these rows has something, the first of the rows' first ones that stands"
            + " in no row but at its begin comes next, and goes out of all rows.");
        b.holds("one that stands behind a row's begin waits", Setups.DIAMOND, "kind(2, NONE, NONE) = 4;"
            + "kind(3, 4, NONE) = 5; list(5, 0) = 5; list(5, 1) = 3; list(5, 2) = 1; list(5, 3) = 4; list(5, 4) = 2;"
            + "list(5, 5) = 0; list(5, 6) = NONE");
        b.holds("the row of the PARENTS holds one back", Setups.flat(3), "kind(1, NONE, NONE) = 3;"
            + "kind(3, 2, 1) = 4; list(4, 0) = 4; list(4, 1) = 3; list(4, 2) = 2; list(4, 3) = 1; list(4, 4) = 0");
        b.holds("a row of 16 to its last one", Setups.line(16), "list(15, 0) = 15; list(15, 14) = 1;"
            + "list(15, 15) = 0; list(15, 16) = NONE");
        b.sentence("Terms", "(If there is none such, there is no LIST: the CLASS is REFUSED.)");
        b.leavesNoTrace("a CLASS ahead of what is it", Setups.DIAMOND, "kind(0, 1, NONE) = -2");
        b.leavesNoTrace("a CLASS ahead of what is it, of three", Setups.DIAMOND, "kind(1, 2, 3) = -2");
        b.leavesNoTrace("the third one stands in the way", Setups.DIAMOND, "kind(2, 0, 1) = -2");
        b.leavesNoTrace("two LISTS in another order", Setups.DIAMOND + "kind(2, 1, NONE) = 4", "kind(3, 4, NONE) = -2");
        b.leavesNoTrace("two LISTS in another order", Setups.DIAMOND + "kind(2, 1, NONE) = 4", "kind(4, 3, NONE) = -2");
        b.leavesNoTrace("the first and the third LIST in another order",
            Setups.DIAMOND + "kind(2, 1, NONE) = 4; kind(0, NONE, NONE) = 5", "kind(3, 5, 4) = -2");
        b.leavesNoTrace("a LIST and the row of PARENTS in another order", Setups.DIAMOND, "kind(3, 2, 1) = -2");
        b.leavesNoTrace("with METHODS and KEPT ones",
            Setups.SQUARE + "call(0, 0x21); call(0, 0x33)", "kind(0, 3, NONE) = -2");
        b.holds("the other way round there is one", Setups.DIAMOND, "kind(1, 0, NONE) = 4; kind(3, 1, NONE) = 5;"
            + "kind(3, 1, 2) = 6; kind(2, 1, 0) = 7; list(6, NONE) = 5; list(7, 1) = 2");
        b.holds("its number is that of the next one", Setups.DIAMOND, "kind(0, 1, NONE) = -2; list(4, NONE) = NONE;"
            + "is(4, 4) = false; count(0) = 4; kind(2, NONE, NONE) = 4; list(4, NONE) = 3; list(4, 1) = 2;"
            + "is(4, 1) = false; is(4, 2) = true");
        b.holds("what was laid for it is not there for the next one", Setups.DIAMOND,
            "kind(1, 2, 0) = 4; kind(1, 0, 2) = -2; kind(2, NONE, NONE) = 5; list(5, NONE) = 3; list(5, 0) = 5;"
            + "list(5, 1) = 2; list(5, 2) = 0; list(5, 3) = NONE; is(5, 1) = false; meet(1, 5, NONE) = 0");
    }

    private static void functions() {
        b.sentence("Terms", "FUNCTIONS, at most 4, numbered from 0 on, each of 1 to 3 PLACES.");
        b.holds("the fourth one comes, with number 3", "function(1) = 0; function(2) = 1; function(3) = 2;"
            + "function(1) = 3; count(1) = 4; of(3, 0) = 1");
        b.leavesNoTrace("a fifth one does not come", Setups.FOUR, "function(1) = NONE");
        b.leavesNoTrace("a fifth one does not come", Setups.FOUR, "function(3) = NONE");
        b.holds("1 PLACE", "function(1) = 0; of(0, 0) = 1; answer(0, 0) = NONE; answer(0, 16) = -3");
        b.holds("3 PLACES", Setups.line(2), "function(3) = 0; of(0, 0) = 3; answer(0, 0x111) = NONE;"
            + "answer(0, 0x1000) = -3");
        b.leavesNoTrace("0 PLACES", Setups.DIAMOND, "function(0) = NONE");
        b.leavesNoTrace("4 PLACES", Setups.DIAMOND, "function(4) = NONE");
        b.sentence("Terms", "told as a number: that at PLACE 0, 16 times that at 1, 256 times that at 2.");
        b.holds("the last number of sixteen CLASSES", Setups.line(16), "function(3) = 0;"
            + "method(0, 15, 0, 1) = 0; method(0, 240, 0, 2) = 1; method(0, 3840, 0, 3) = 2;"
            + "applicable(0, 15) = 1; applicable(0, 14) = 0; applicable(0, 240) = 2; applicable(0, 239) = 1;"
            + "applicable(0, 3840) = 4; applicable(0, 4095) = 7; applicable(0, 3839) = 3");
    }

    private static void methods() {
        b.sentence("Terms", "METHODS of a FUNCTION, at most 12, numbered from 0 on as they come");
        b.holds("the twelfth one comes, with number 11", Setups.methods(13, 11), "method(0, 11, 3, 9) = 11;"
            + "of(0, 1) = 4095; at(0, 11, 0) = 11; at(0, 11, 1) = 3; at(0, 11, 2) = 9; answer(0, 11) = 11");
        b.leavesNoTrace("a thirteenth one does not come", Setups.methods(13, 12), "method(0, 12, 0, 0) = NONE");
        b.leavesNoTrace("a thirteenth one does not come", Setups.methods(16, 12), "method(0, 15, 3, 999) = NONE");
        b.holds("another FUNCTION has twelve of its own", Setups.methods(13, 12), "function(1) = 1;"
            + "method(1, 0, 0, 0) = 0; method(0, 12, 0, 0) = NONE; method(1, 12, 0, 0) = 1; count(3) = 14");
        b.holds("one that was refused has no number", Setups.SQUARE, "method(0, 0x20, 0, 0) = -2;"
            + "method(0, 0x40, 0, 0) = NONE; method(0, 0x30, 4, 0) = NONE; method(0, 0x30, 0, 0) = 2");
    }

    private static void freeNumbers() {
        b.sentence("Terms", "(a number whose METHOD went is free: a new one has the least free one)");
        b.holds("the first number", Setups.methods(13, 12), "drop(0, 0) = 11; method(0, 12, 1, 2) = 0;"
            + "at(0, 0, 0) = 12; at(0, 0, 1) = 1; at(0, 0, 2) = 2; method(0, 0, 0, 0) = NONE");
        b.holds("the last number", Setups.methods(13, 12), "drop(0, 11) = 11; method(0, 12, 0, 0) = 11;"
            + "at(0, 11, 0) = 12");
        b.holds("the less of two, whichever went first", Setups.methods(16, 12), "drop(0, 4) = 11; drop(0, 7) = 10;"
            + "method(0, 12, 0, 0) = 4; method(0, 13, 0, 0) = 7; method(0, 14, 0, 0) = NONE");
        b.holds("the less of two, whichever went first", Setups.methods(16, 12), "drop(0, 7) = 11; drop(0, 4) = 10;"
            + "method(0, 12, 0, 0) = 4; method(0, 13, 0, 0) = 7; method(0, 14, 0, 0) = NONE");
        b.holds("one ahead of numbers that were never given", Setups.methods(8, 5), "drop(0, 3) = 4;"
            + "method(0, 5, 0, 0) = 3; method(0, 6, 0, 0) = 5");
        b.holds("all of them went", Setups.SQUARE, "drop(0, 0) = 1; drop(0, 1) = 0; method(0, 0x33, 0, 0) = 0;"
            + "of(0, 1) = 1; method(0, 0x32, 0, 0) = 1");
        b.holds("it went twice", Setups.SQUARE, "drop(0, 0) = 1; method(0, 0x33, 0, 0) = 0; drop(0, 0) = 1;"
            + "method(0, 0x32, 0, 0) = 0; at(0, 0, 0) = 0x32; method(0, 0x33, 0, 0) = 2");
        b.holds("a METHOD for the CALL 0 had the number", Setups.one(4, 3), "drop(0, 0) = 0;"
            + "method(0, 0x111, 0, 0) = 0; applicable(0, 0x111) = 1; applicable(0, 0x110) = 0;"
            + "applicable(0, 0x101) = 0; applicable(0, 0x011) = 0; applicable(0, 0x000) = 0");
        b.holds("the METHOD that had the number is gone from every CALL", Setups.SQUARE, "drop(0, 0) = 1;"
            + "method(0, 0x33, 0, 0) = 0; applicable(0, 0x01) = 0; applicable(0, 0x23) = 2; applicable(0, 0x33) = 3;"
            + "answer(0, 0x33) = 0; work(0, 0x33) = 0");
    }

    private static void noTwoForTheSame() {
        b.sentence("Terms", "no two for the same");
        b.leavesNoTrace("the same KIND and VALUE, too", Setups.SQUARE, "method(0, 0x01, 1, 5) = -2");
        b.leavesNoTrace("another KIND and VALUE", Setups.SQUARE, "method(0, 0x20, 3, -999) = -2");
        b.leavesNoTrace("the first number", Setups.one(1, 3), "method(0, 0, 0, 0) = -2");
        b.leavesNoTrace("the last number", Setups.line(16) + "function(3) = 0; method(0, 4095, 0, 0) = 0",
            "method(0, 4095, 0, 0) = -2");
        b.holds("for another FUNCTION there may be one", Setups.SQUARE, "function(2) = 1; method(1, 0x01, 1, 5) = 0;"
            + "method(1, 0x20, 1, 5) = 1");
        b.holds("there may be one where one went", Setups.SQUARE, "drop(0, 0) = 1; method(0, 0x01, 2, 6) = 0;"
            + "at(0, 0, 2) = 6; method(0, 0x01, 2, 6) = -2");
        b.holds("unlike at one PLACE only", Setups.line(2), "function(3) = 0; method(0, 0x111, 0, 0) = 0;"
            + "method(0, 0x110, 0, 0) = 1; method(0, 0x101, 0, 0) = 2; method(0, 0x011, 0, 0) = 3");
    }

    private static void valuesAndKinds() {
        b.sentence("Terms", "each with a VALUE, -999 to 999, and a KIND 0 to 3.");
        b.holds("VALUE -999", Setups.SQUARE, "method(0, 0, 0, -999) = 2; at(0, 2, 2) = -999; work(0, 0) = -999");
        b.holds("VALUE 999", Setups.SQUARE, "method(0, 0, 0, 999) = 2; at(0, 2, 2) = 999; work(0, 0) = 999");
        b.holds("VALUE 0", Setups.SQUARE, "method(0, 0, 0, 0) = 2; at(0, 2, 2) = 0; work(0, 0) = 0");
        b.leavesNoTrace("VALUE -1000", Setups.SQUARE, "method(0, 0, 0, -1000) = NONE");
        b.leavesNoTrace("VALUE 1000", Setups.SQUARE, "method(0, 0, 0, 1000) = NONE");
        b.holds("KIND 0", Setups.SQUARE, "method(0, 0, 0, 4) = 2; at(0, 2, 1) = 0");
        b.holds("KIND 3", Setups.SQUARE, "method(0, 0, 3, 4) = 2; at(0, 2, 1) = 3");
        b.leavesNoTrace("KIND -1", Setups.SQUARE, "method(0, 0, -1, 4) = NONE");
        b.leavesNoTrace("KIND 4", Setups.SQUARE, "method(0, 0, 4, 4) = NONE");
    }

    private static void applicable() {
        b.sentence("Terms", "A METHOD is APPLICABLE to a CALL, if at each PLACE the CALL's CLASS IS the METHOD's.");
        b.holds("not, where one PLACE fails", Setups.line(3), "function(3) = 0; method(0, 0x111, 0, 0) = 0;"
            + "applicable(0, 0x111) = 1; applicable(0, 0x222) = 1; applicable(0, 0x022) = 0; applicable(0, 0x202) = 0;"
            + "applicable(0, 0x220) = 0; applicable(0, 0x110) = 0");
        b.holds("a CLASS that comes behind the METHOD", Setups.SQUARE, "kind(3, NONE, NONE) = 4;"
            + "kind(0, NONE, NONE) = 5; applicable(0, 0x44) = 3; applicable(0, 0x54) = 1; applicable(0, 0x45) = 2;"
            + "applicable(0, 0x55) = 0");
        b.holds("a CLASS that comes where there is no METHOD", "function(3) = 0; kind(0, NONE, NONE) = 1;"
            + "applicable(0, 0x111) = 0; answer(0, 0x111) = NONE");
        b.holds("a CLASS that comes behind a METHOD that went", Setups.one(4, 3), "drop(0, 0) = 0;"
            + "kind(3, NONE, NONE) = 4; applicable(0, 0x444) = 0; answer(0, 0x444) = NONE");
        b.sentence("Terms", "One METHOD is AT MOST another one, if at each PLACE its CLASS IS the other one's.");
        b.holds("at each PLACE but one it is not enough", Setups.line(3), "function(3) = 0;"
            + "method(0, 0x011, 0, 0) = 0; method(0, 0x100, 0, 0) = 1; answer(0, 0x111) = -2;"
            + "method(0, 0x111, 0, 0) = 2; answer(0, 0x111) = 2; answer(0, 0x211) = 2; fight(0, 0, 1) = NONE");
    }

    private static void answers() {
        b.sentence("Terms", "NONE: there are none; -2: AMBIGUOUS, there is no FIRST (by RULE 0).");
        b.holds("there are none, without a METHOD", Setups.DIAMOND, "function(1) = 0; answer(0, 3) = NONE;"
            + "rule() = 1; answer(0, 3) = NONE");
        b.holds("there are none, with METHODS for others", Setups.SQUARE, "answer(0, 0x00) = NONE;"
            + "answer(0, 0x12) = NONE; rule() = 1; answer(0, 0x12) = NONE");
        b.holds("a single one is the FIRST", Setups.SQUARE, "answer(0, 0x01) = 0; answer(0, 0x20) = 1");
        b.holds("two of which none is AT MOST the other one", Setups.SQUARE, "answer(0, 0x21) = -2;"
            + "answer(0, 0x33) = -2");
        b.holds("by RULE 1 there is always one", Setups.SQUARE, "rule() = 1; answer(0, 0x21) = 0; answer(0, 0x33) = 0;"
            + "rule() = 0; answer(0, 0x33) = -2");
        b.holds("a third one that is AT MOST both", Setups.SQUARE, "method(0, 0x33, 0, 0) = 2; answer(0, 0x33) = 2;"
            + "answer(0, 0x23) = -2; answer(0, 0x31) = -2");
        b.holds("a third one that is AT MOST one of both", Setups.SQUARE, "method(0, 0x03, 0, 0) = 2;"
            + "answer(0, 0x33) = -2; answer(0, 0x03) = 2");
        b.holds("twelve of which none is AT MOST another one", Setups.crossing(12), "answer(0, 0xBB) = -2;"
            + "rule() = 1; answer(0, 0xBB) = 11");
        b.sentence("Terms", "of two, at the first PLACE at which they are unlike, the one whose CLASS stands ahead in"
            + " the LIST of the CALL's CLASS.");
        b.holds("unlike at the last PLACE only", Setups.DIAMOND, "kind(2, 1, NONE) = 4; function(3) = 0;"
            + "method(0, 0x200, 0, 0) = 0; method(0, 0x100, 0, 0) = 1; rule() = 1; answer(0, 0x300) = 1;"
            + "answer(0, 0x400) = 0");
        b.holds("unlike at each PLACE: the first one counts", Setups.DIAMOND, "kind(2, 1, NONE) = 4; function(3) = 0;"
            + "method(0, 0x331, 0, 0) = 0; method(0, 0x002, 0, 0) = 1; rule() = 1; answer(0, 0x334) = 1;"
            + "answer(0, 0x333) = 0");
        b.holds("the same PLACE 0: PLACE 1 counts ahead of PLACE 2", Setups.DIAMOND, "function(3) = 0;"
            + "method(0, 0x120, 0, 0) = 0; method(0, 0x210, 0, 0) = 1; rule() = 1; answer(0, 0x330) = 1;"
            + "chain(0, 0x330, 1) = 0");
        b.holds("the same PLACE 0, unlike at PLACE 1", Setups.DIAMOND, "kind(2, 1, NONE) = 4; function(2) = 0;"
            + "method(0, 0x11, 0, 0) = 0; method(0, 0x21, 0, 0) = 1; rule() = 1; answer(0, 0x31) = 0;"
            + "answer(0, 0x41) = 1");
    }

    private static void chains() {
        b.sentence("Terms", "the FIRST of the APPLICABLE ones, the FIRST of the others, and so on, as long as there is"
            + " one. It is BROKEN, if others are left behind it.");
        b.holds("no METHOD, none left", Setups.SQUARE, "chain(0, 0, NONE) = 0; chain(0, 0, 0) = NONE;"
            + "broken(0, 0) = 0");
        b.holds("no METHOD, as there is no FIRST: all are left", Setups.SQUARE, "chain(0, 0x21, NONE) = 0;"
            + "chain(0, 0x21, 0) = NONE; broken(0, 0x21) = 2");
        b.holds("one METHOD, none left", Setups.SQUARE, "chain(0, 1, NONE) = 1; chain(0, 1, 0) = 0; broken(0, 1) = 0");
        b.holds("one METHOD, two left", Setups.SQUARE, "method(0, 0x21, 0, 0) = 2; chain(0, 0x21, NONE) = 1;"
            + "chain(0, 0x21, 0) = 2; chain(0, 0x21, 1) = NONE; broken(0, 0x21) = 2");
        b.holds("one METHOD, three left: one behind both is not reached", Setups.SQUARE, "method(0, 0x21, 0, 0) = 2;"
            + "method(0, 0, 0, 0) = 3; chain(0, 0x21, NONE) = 1; broken(0, 0x21) = 3; chain(0, 0x20, NONE) = 2;"
            + "broken(0, 0x20) = 0");
        b.holds("by RULE 1 none is ever left", Setups.SQUARE, "rule() = 1; chain(0, 0x21, NONE) = 2;"
            + "chain(0, 0x21, 0) = 0; chain(0, 0x21, 1) = 1; broken(0, 0x21) = 0");
        b.holds("all twelve, none left", Setups.methods(12, 12), "chain(0, 11, NONE) = 12; chain(0, 11, 0) = 11;"
            + "chain(0, 11, 11) = 0; chain(0, 11, 12) = NONE; broken(0, 11) = 0");
        b.holds("all twelve left", Setups.crossing(12), "chain(0, 0xBB, NONE) = 0; broken(0, 0xBB) = 12");
        b.holds("one and eleven left", Setups.crossing(11), "method(0, 0xBB, 0, 0) = 11; chain(0, 0xBB, NONE) = 1;"
            + "chain(0, 0xBB, 0) = 11; broken(0, 0xBB) = 11; rule() = 1; chain(0, 0xBB, NONE) = 12;"
            + "broken(0, 0xBB) = 0");
    }

    private static void workedOut() {
        b.sentence("Terms", "from its last METHOD back (0 behind it): by KIND 0: VALUE; 1: VALUE and what comes of the"
            + " next one, together; 2: VALUE times that; 3: the greater one of both.");
        String function = Setups.line(2) + "function(1) = 0;";
        b.holds("the last one, KIND 0", function, "method(0, 0, 0, -7) = 0; work(0, 0) = -7");
        b.holds("the last one, KIND 1: VALUE and 0", function, "method(0, 0, 1, -7) = 0; work(0, 0) = -7");
        b.holds("the last one, KIND 2: VALUE times 0", function, "method(0, 0, 2, 999) = 0; work(0, 0) = 0");
        b.holds("the last one, KIND 3: VALUE -1 or 0", function, "method(0, 0, 3, -1) = 0; work(0, 0) = 0");
        b.holds("the last one, KIND 3: VALUE 0 or 0", function, "method(0, 0, 3, 0) = 0; work(0, 0) = 0");
        b.holds("the last one, KIND 3: VALUE 1 or 0", function, "method(0, 0, 3, 1) = 0; work(0, 0) = 1");
        String next = function + "method(0, 0, 0, -5) = 0;";
        b.holds("a next one, KIND 0", next, "method(0, 1, 0, 3) = 1; work(0, 1) = 3");
        b.holds("a next one, KIND 1", next, "method(0, 1, 1, 3) = 1; work(0, 1) = -2");
        b.holds("a next one, KIND 2", next, "method(0, 1, 2, 3) = 1; work(0, 1) = -15");
        b.holds("a next one, KIND 3, the one below", next, "method(0, 1, 3, -6) = 1; work(0, 1) = -5");
        b.holds("a next one, KIND 3, the same", next, "method(0, 1, 3, -5) = 1; work(0, 1) = -5");
        b.holds("a next one, KIND 3, the one above", next, "method(0, 1, 3, -4) = 1; work(0, 1) = -4");
        b.holds("0 behind the last one of a CHAIN that is BROKEN", Setups.SQUARE, "method(0, 0x21, 1, 100) = 2;"
            + "work(0, 0x21) = 100; rule() = 1; work(0, 0x21) = 112");
    }

    /** METHOD m for CLASS m of a line; 2147483647 is ((2 * 999 + 153) * 999 + 784) * 999 + 280. */
    private static void wrapping() {
        b.sentence("Terms", "(As ints that wrap.)");
        String most = Setups.line(12) + "function(1) = 0; method(0, 0, 0, 2) = 0; method(0, 1, 2, 999) = 1;"
            + "method(0, 2, 1, 153) = 2; method(0, 3, 2, 999) = 3; method(0, 4, 1, 784) = 4;"
            + "method(0, 5, 2, 999) = 5; method(0, 6, 1, 280) = 6;";
        b.holds("the greatest int, without a wrap", most, "work(0, 5) = 2147483367; work(0, 6) = MOST");
        b.holds("one more by KIND 1", most, "method(0, 7, 1, 1) = 7; work(0, 7) = LEAST");
        b.holds("999 more by KIND 1", most, "method(0, 7, 1, 999) = 7; work(0, 7) = -2147482650");
        b.holds("one more, and one less again", most, "method(0, 7, 1, 1) = 7; method(0, 8, 1, -1) = 8;"
            + "work(0, 8) = MOST");
        b.holds("twice by KIND 2", most, "method(0, 7, 2, 2) = 7; work(0, 7) = -2");
        b.holds("the least int times -1 by KIND 2", most, "method(0, 7, 1, 1) = 7; method(0, 8, 2, -1) = 8;"
            + "work(0, 8) = LEAST");
        b.holds("the greater one by KIND 3, of the greatest int", most, "method(0, 7, 3, 999) = 7; work(0, 7) = MOST");
        b.holds("the greater one by KIND 3, of what has wrapped", most, "method(0, 7, 1, 1) = 7;"
            + "method(0, 8, 3, -999) = 8; work(0, 8) = -999");
        b.holds("999 to the fourth", Setups.line(12) + "function(1) = 0; method(0, 0, 0, 999) = 0;",
            "method(0, 1, 2, 999) = 1; method(0, 2, 2, 999) = 2; work(0, 2) = 997002999; method(0, 3, 2, 999) = 3;"
            + "work(0, 3) = -426416671");
    }

    private static void meetsAndBelow() {
        b.sentence("Terms", "all CLASSES that are both, and of which no other one that is both is PARENT or PARENT's"
            + " PARENT and so on.");
        b.holds("none", Setups.flat(3), "meet(1, 2, NONE) = 0; meet(1, 2, 0) = NONE");
        b.holds("one CLASS with itself", Setups.flat(3), "meet(1, 1, NONE) = 1; meet(1, 1, 0) = 1");
        b.holds("one that is the other", Setups.DIAMOND, "meet(3, 0, NONE) = 1; meet(3, 0, 0) = 3;"
            + "meet(0, 3, 0) = 3; meet(0, 0, 0) = 0");
        b.holds("its child and its child's child are none", Setups.DIAMOND, "kind(3, NONE, NONE) = 4;"
            + "kind(4, NONE, NONE) = 5; meet(1, 2, NONE) = 1; meet(1, 2, 0) = 3; meet(1, 2, 1) = NONE");
        b.holds("the child of two of them is none", Setups.meets(2), "kind(3, 4, NONE) = 5; meet(1, 2, NONE) = 2;"
            + "meet(1, 2, 1) = 4");
        b.holds("a second PARENT that is both, too", Setups.DIAMOND, "kind(0, NONE, NONE) = 4; kind(4, 3, NONE) = 5;"
            + "meet(1, 2, NONE) = 1");
        b.sentence("Terms", "A CALL is BELOW another one, if at each PLACE its CLASS IS that one's, and it is not the"
            + " same.");
        b.holds("the same one is not BELOW itself", Setups.SQUARE, "of(0, 5) = 1; clash(0, 0) = 0x21;"
            + "of(0, 6) = 1; gap(0, 0) = 0");
        b.holds("unlike at one PLACE is enough", Setups.line(3), "function(3) = 0; method(0, 0x001, 0, 0) = 0;"
            + "method(0, 0x010, 0, 0) = 1; of(0, 4) = 12; of(0, 5) = 1; clash(0, 0) = 0x011");
    }

    private static void clashesFightsGaps() {
        b.sentence("Terms", "an AMBIGUOUS CALL by RULE 0 (whatever RULE there is) BELOW no other such one.");
        b.holds("by RULE 1, too", Setups.SQUARE, "rule() = 1; of(0, 5) = 1; clash(0, 0) = 0x21; settle(0) = 1;"
            + "of(0, 4) = 4");
        b.holds("BELOW one that is not AMBIGUOUS", Setups.DIAMOND, "kind(3, NONE, NONE) = 4; kind(4, NONE, NONE) = 5;"
            + "kind(3, NONE, NONE) = 6; kind(4, 6, NONE) = 7; function(1) = 0; method(0, 1, 0, 0) = 0;"
            + "method(0, 2, 0, 0) = 1; method(0, 3, 0, 0) = 2; of(0, 5) = 0; method(0, 4, 0, 0) = 3;"
            + "method(0, 6, 0, 0) = 4; of(0, 4) = 1; clash(0, 0) = 7");
        b.sentence("Terms", "if both are APPLICABLE, neither is AT MOST the other one, and no APPLICABLE one is AT"
            + " MOST both.");
        b.holds("both APPLICABLE to no CALL", Setups.flat(3), "function(1) = 0; method(0, 1, 0, 0) = 0;"
            + "method(0, 2, 0, 0) = 1; fight(0, 0, 1) = NONE; kind(1, 2, NONE) = 3; fight(0, 0, 1) = 3");
        b.holds("one is AT MOST the other one", Setups.line(2), "function(1) = 0; method(0, 0, 0, 0) = 0;"
            + "method(0, 1, 0, 0) = 1; fight(0, 0, 1) = NONE; fight(0, 1, 0) = NONE");
        b.holds("one that is AT MOST both is APPLICABLE", Setups.SQUARE, "method(0, 0x21, 0, 0) = 2;"
            + "fight(0, 0, 1) = NONE");
        b.holds("one that is AT MOST both is not APPLICABLE to the least", Setups.SQUARE,
            "method(0, 0x33, 0, 0) = 2; fight(0, 0, 1) = 0x21; method(0, 0x21, 0, 0) = 3; fight(0, 0, 1) = NONE");
        b.sentence("Terms", "a CALL to which no METHOD is APPLICABLE, BELOW no other such one.");
        b.holds("none, with a METHOD for the CALL 0", Setups.one(4, 3), "of(0, 6) = 0; gap(0, 0) = NONE;"
            + "of(0, 3) = 0");
        b.holds("the CALL 0, without a METHOD for it", Setups.DIAMOND, "function(3) = 0; of(0, 6) = 1;"
            + "gap(0, 0) = 0; gap(0, 1) = NONE; method(0, 0x333, 0, 0) = 0; of(0, 6) = 1; gap(0, 0) = 0;"
            + "of(0, 3) = 63");
    }

    private static void polesAndIdle() {
        b.sentence("Terms", "if putting one of them there instead of the other one changes no ANSWER.");
        b.holds("an ANSWER at one CALL only", Setups.line(4), "function(3) = 0; method(0, 0x333, 0, 0) = 0;"
            + "pole(0, 0, 3) = 3; pole(0, 1, 3) = 3; pole(0, 2, 3) = 3; pole(0, 0, 2) = 0; pole(0, 1, 2) = 0;"
            + "pole(0, 2, 2) = 0; of(0, 7) = 8");
        b.holds("NONE and -2 are ANSWERS, too", Setups.DIAMOND, "function(1) = 0; method(0, 1, 0, 0) = 0;"
            + "method(0, 2, 0, 0) = 1; pole(0, 0, 3) = 3; pole(0, 0, 0) = 0; of(0, 7) = 4; rule() = 1;"
            + "pole(0, 0, 3) = 1; of(0, 7) = 3");
        b.sentence("Terms", "the least one ALIKE.");
        b.holds("itself, if there is none less", Setups.methods(3, 3), "pole(0, 0, 0) = 0; pole(0, 0, 1) = 1;"
            + "pole(0, 0, 2) = 2");
        b.holds("the least one of sixteen", Setups.one(16, 1), "pole(0, 0, 15) = 0; pole(0, 0, 0) = 0; of(0, 7) = 1");
        b.sentence("Terms", "over all PLACES how many POLES there are, multiplied.");
        b.holds("1, without METHODS", Setups.line(16), "function(3) = 0; of(0, 7) = 1");
        b.holds("one PLACE with as many as can be", Setups.line(16), "function(1) = 0;" + lineMethods(1, 12),
            "of(0, 7) = 13; pole(0, 0, 12) = 12; pole(0, 0, 15) = 12");
        b.holds("three PLACES", Setups.line(3), "function(3) = 0; method(0, 0x001, 0, 0) = 0;"
            + "method(0, 0x021, 0, 0) = 1; of(0, 7) = 4; method(0, 0x121, 0, 0) = 2; of(0, 7) = 8;"
            + "method(0, 0x122, 0, 0) = 3; of(0, 7) = 12");
        b.sentence("Terms", "IDLE is a METHOD that is ANSWER of no CALL.");
        b.holds("one is the ANSWER of a single CALL", Setups.line(2), "function(2) = 0; method(0, 0x11, 0, 0) = 0;"
            + "method(0, 0x10, 0, 0) = 1; method(0, 0x01, 0, 0) = 2; method(0, 0x00, 0, 0) = 3; of(0, 8) = 0;"
            + "at(0, 0, 3) = 1; at(0, 1, 3) = 1; at(0, 2, 3) = 1; at(0, 3, 3) = 1; rule() = 1; of(0, 8) = 0");
    }

    private static String lineMethods(int from, int to) {
        StringBuilder s = new StringBuilder();
        for (int c = from; c <= to; c++) {
            s.append("method(0, ").append(c).append(", 0, 0) = ").append(c - from).append(';');
        }
        return s.toString();
    }

    private static void kept() {
        b.sentence("Terms", "KEPT are ANSWERS of the latest 6 CALLS of each FUNCTION that were asked (unlike ones), in"
            + " the order of asking, the latest one last.");
        b.holds("none at first", Setups.SQUARE, "of(0, 9) = 0; kept(0, 0) = NONE; count(6) = 0");
        b.holds("one", Setups.SQUARE, "call(0, 0x33) = -2; of(0, 9) = 1; kept(0, 0) = 0x33; kept(0, 1) = NONE");
        b.holds("six", Setups.one(16, 1), "call(0, 9); call(0, 3); call(0, 15); call(0, 0); call(0, 7); call(0, 1);"
            + "of(0, 9) = 6; kept(0, 0) = 9; kept(0, 1) = 3; kept(0, 2) = 15; kept(0, 3) = 0; kept(0, 4) = 7;"
            + "kept(0, 5) = 1; kept(0, 6) = NONE; count(6) = 6; count(5) = 6; count(4) = 0");
        b.holds("unlike ones: the same one six times is one", Setups.SQUARE, Setups.times(6, "call(0, 1) = 0;"),
            "of(0, 9) = 1; kept(0, 0) = 1; count(4) = 5; count(5) = 1");
        b.holds("of each FUNCTION: four times six", Setups.FOUR, sixCalls(0), sixCalls(1), sixCalls(2), sixCalls(3),
            "count(6) = 24; of(0, 9) = 6; of(3, 9) = 6; kept(0, 0) = 0; kept(3, 5) = 0x11; kept(3, 0) = 0;"
            + "call(1, 0) = NONE; count(4) = 1; kept(1, 5) = 0; kept(0, 5) = 0x11");
        b.holds("the same CALL of another FUNCTION is another one", Setups.FOUR, "call(0, 1) = 0; call(1, 1) = 0;"
            + "count(4) = 0; count(5) = 2; count(6) = 2; call(1, 1) = 0; count(4) = 1");
        b.holds("ANSWERS NONE and -2 are KEPT, too", Setups.SQUARE, "call(0, 0) = NONE; call(0, 0x21) = -2;"
            + "call(0, 0) = NONE; call(0, 0x21) = -2; count(4) = 2; count(5) = 2; count(6) = 2");
        b.holds("a call that is none such is not asked", Setups.SQUARE, "call(0, 4) = -3; call(1, 0) = -3;"
            + "count(4) = 0; count(5) = 0; count(6) = 0");
    }

    private static String sixCalls(int function) {
        StringBuilder s = new StringBuilder();
        for (int call : new int[] {0x00, 0x01, 0x02, 0x03, 0x10, 0x11}) {
            s.append("call(").append(function).append(", ").append(call).append(");");
        }
        return s.toString();
    }

    private static void keptOldest() {
        b.sentence("Terms", "A CALL that is asked and is KEPT is a HIT (it is the latest one then), else a MISS (it is"
            + " KEPT then; of seven the oldest one goes).");
        String six = Setups.SQUARE + sixCalls(0);
        b.holds("a seventh one: the oldest one goes", six, "call(0, 0x12) = NONE; of(0, 9) = 6; kept(0, 0) = 0x01;"
            + "kept(0, 5) = 0x12; kept(0, 6) = NONE; count(4) = 0; count(5) = 7; count(6) = 6");
        b.holds("the one that went is a MISS again", six, "call(0, 0x12) = NONE; call(0, 0) = NONE; count(4) = 0;"
            + "count(5) = 8; kept(0, 0) = 0x02; kept(0, 5) = 0");
        b.holds("the oldest one of six is a HIT, the latest one then", six, "call(0, 0) = NONE; count(4) = 1;"
            + "count(5) = 6; kept(0, 0) = 0x01; kept(0, 5) = 0; of(0, 9) = 6");
        b.holds("the oldest one that was asked again does not go", six, "call(0, 0) = NONE; call(0, 0x12) = NONE;"
            + "kept(0, 0) = 0x02; kept(0, 4) = 0; kept(0, 5) = 0x12; call(0, 0) = NONE; count(4) = 2");
        b.holds("the latest one of six is a HIT and stays there", six, "call(0, 0x11) = 0; count(4) = 1;"
            + "kept(0, 0) = 0; kept(0, 4) = 0x10; kept(0, 5) = 0x11");
        b.holds("one amid is a HIT, the latest one then", six, "call(0, 0x02) = NONE; count(4) = 1;"
            + "kept(0, 1) = 0x01; kept(0, 2) = 0x03; kept(0, 4) = 0x11; kept(0, 5) = 0x02");
        b.holds("a seventh one of another FUNCTION drops none", Setups.FOUR, sixCalls(0), "call(1, 0x12) = NONE;"
            + "of(0, 9) = 6; kept(0, 0) = 0; of(1, 9) = 1; count(6) = 7");
        b.holds("seven in turn never hit", Setups.SQUARE, Setups.times(3, sixCalls(0) + "call(0, 0x12);"),
            "count(4) = 0; count(5) = 21; count(6) = 6");
        b.holds("six in turn always hit but at first", Setups.SQUARE, Setups.times(3, sixCalls(0)),
            "count(4) = 12; count(5) = 6; count(6) = 6");
    }

    private static void keptDropped() {
        b.sentence("Terms", "A METHOD that comes or goes drops those of its FUNCTION to which it is APPLICABLE; another"
            + " RULE drops all; a new CLASS none.");
        String asked = Setups.FOUR + sixCalls(0) + sixCalls(1);
        b.holds("one that comes and is APPLICABLE to none of them", asked, "method(0, 0x33, 0, 0) = 2; of(0, 9) = 6;"
            + "kept(0, 0) = 0; kept(0, 5) = 0x11");
        b.holds("one that comes and is APPLICABLE to one of them", asked, "method(0, 0x11, 0, 0) = 2; of(0, 9) = 5;"
            + "kept(0, 4) = 0x10; kept(0, 5) = NONE; call(0, 0x11) = 2; count(4) = 0; count(5) = 13");
        b.holds("one that comes and is APPLICABLE to the oldest and all", asked, "method(0, 0, 0, 0) = 2;"
            + "of(0, 9) = 0; kept(0, 0) = NONE; count(6) = 6; call(0, 0) = 2");
        b.holds("one that comes and is APPLICABLE to some amid", asked, "method(0, 0x02, 0, 0) = 2; of(0, 9) = 4;"
            + "kept(0, 0) = 0; kept(0, 1) = 0x01; kept(0, 2) = 0x10; kept(0, 3) = 0x11");
        b.holds("whose ANSWER it does not change, too", asked + "method(0, 0x03, 0, 0) = 2; call(0, 0x03) = 2;",
            "of(0, 9) = 6; method(0, 0x02, 0, 0) = 3; of(0, 9) = 4; kept(0, 3) = 0x11; call(0, 0x03) = 2;"
            + "count(4) = 0; count(5) = 14");
        b.holds("of its FUNCTION only", asked, "method(1, 0, 0, 0) = 2; of(0, 9) = 6; of(1, 9) = 0");
        b.holds("one that goes", asked, "drop(0, 0) = 1; of(0, 9) = 3; kept(0, 0) = 0; kept(0, 1) = 0x02;"
            + "kept(0, 2) = 0x10; kept(0, 3) = NONE; of(1, 9) = 6; call(0, 0x01) = NONE; count(4) = 0; count(5) = 13");
        b.holds("one that goes and is APPLICABLE to none of them", asked, "drop(0, 1) = 1; of(0, 9) = 6;"
            + "call(0, 0) = NONE; count(4) = 1");
        b.holds("one that was not FIRST goes", asked, "method(0, 0, 0, 0) = 2; call(0, 0x01) = 0; call(0, 0x20) = 1;"
            + "drop(0, 2) = 2; of(0, 9) = 0");
        b.leavesNoTrace("one that does not come, for there is one for that", asked, "method(0, 0x01, 0, 0) = -2");
        b.leavesNoTrace("one that does not come, of a VALUE that can't be", asked, "method(0, 0x00, 0, 1000) = NONE");
        b.leavesNoTrace("one that does not come, for there are 12", Setups.methods(13, 12) + "call(0, 12); call(0, 3);",
            "method(0, 12, 0, 0) = NONE");
        b.leavesNoTrace("one that does not go", asked, "drop(0, 2) = NONE");
        b.holds("another RULE drops those of all FUNCTIONS", asked, "rule() = 1; count(6) = 0; of(0, 9) = 0;"
            + "of(1, 9) = 0; kept(1, 0) = NONE; count(4) = 0; count(5) = 12; call(0, 0) = NONE; count(5) = 13");
        b.holds("the RULE of before drops all, too", asked, "rule() = 1; call(0, 0x21) = 0; call(1, 0) = NONE;"
            + "rule() = 0; count(6) = 0; call(0, 0x21) = -2; count(4) = 0");
        b.holds("a new CLASS drops none", asked, "kind(3, NONE, NONE) = 4; kind(0, NONE, NONE) = 5; count(6) = 12;"
            + "kept(0, 0) = 0; kept(0, 5) = 0x11; call(0, 0x11) = 0; count(4) = 1");
        b.holds("a new FUNCTION drops none", Setups.SQUARE, sixCalls(0), "function(2) = 1; of(0, 9) = 6;"
            + "of(1, 9) = 0; count(6) = 6");
    }
}
