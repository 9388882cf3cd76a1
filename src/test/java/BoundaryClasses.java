/** The boundary cases that promises 1 to 5 name: a new object, and classes. */
public final class BoundaryClasses {
    private static final int LEAST = Bench.LEAST;
    private static final int MOST = Bench.MOST;

    private static Bench b;

    public static void main(String[] args) {
        b = new Bench(args);
        newObject();
        kindRoom();
        kindParents();
        kindAlike();
        kindRefused();
        is();
        list();
        meet();
        b.end();
    }

    private static void newObject() {
        b.sentence("Promise 1", "CLASS 0.");
        b.holds("the one CLASS that there is", "count(0) = 1; is(0, 0) = true; list(0, NONE) = 1; list(0, 0) = 0;"
            + "meet(0, 0, NONE) = 1; kind(1, NONE, NONE) = NONE; kind(0, NONE, NONE) = 1");
        b.holds("nothing else is there", "count(1) = 0; count(2) = 0; count(3) = 0; count(4) = 0; count(5) = 0;"
            + "count(6) = 0");
        b.holds("no FUNCTION is there to be asked", "method(0, 0, 0, 0) = NONE; drop(0, 0) = NONE; of(0, 0) = NONE;"
            + "at(0, 0, 0) = throws; call(0, 0) = -3; answer(0, 0) = -3; applicable(0, 0) = NONE;"
            + "chain(0, 0, NONE) = NONE; broken(0, 0) = NONE; work(0, 0) = throws; kept(0, 0) = NONE;"
            + "clash(0, 0) = NONE; gap(0, 0) = NONE; fight(0, 0, 1) = NONE; pole(0, 0, 0) = NONE;"
            + "change(0, 0) = NONE; settle(0) = NONE");
        b.holds("the first FUNCTION has the CALL 0 only", "function(3) = 0; of(0, 2) = 1; answer(0, 0) = NONE;"
            + "answer(0, 1) = -3; method(0, 0, 0, 5) = 0; answer(0, 0) = 0; work(0, 0) = 5");
        b.sentence("The public face", "public static final int NONE = -1;");
        b.holds("NONE is -1", "kind(0, -1, -1) = 1; list(1, -1) = 2; of(0, 0) = -1");
    }

    private static void kindRoom() {
        b.sentence("Promise 2", "NONE: there are 16;");
        b.holds("there are 15: the last one comes", Setups.flat(15), "kind(0, NONE, NONE) = 15; count(0) = 16");
        b.leavesNoTrace("with one PARENT", Setups.flat(16), "kind(0, NONE, NONE) = NONE");
        b.leavesNoTrace("with the last CLASS as PARENT", Setups.flat(16), "kind(15, NONE, NONE) = NONE");
        b.leavesNoTrace("with two PARENTS", Setups.flat(16), "kind(14, 15, NONE) = NONE");
        b.leavesNoTrace("with three PARENTS", Setups.flat(16), "kind(1, 2, 3) = NONE");
        b.leavesNoTrace("with what would be REFUSED", Setups.flat(16), "kind(0, 1, NONE) = NONE");
        b.leavesNoTrace("with METHODS and KEPT ones", Setups.one(16, 2) + "call(0, 0xFF) = 0; call(0, 0x0F) = 0",
            "kind(15, NONE, NONE) = NONE");
        b.holds("it stays so", Setups.flat(16), Setups.times(5, "kind(0, NONE, NONE) = NONE;"), "count(0) = 16");
    }

    private static void kindParents() {
        b.sentence("Promise 2", "with PARENTS one, two, three (NONE: not so many; two is NONE only if three is): its"
            + " number.");
        b.holds("one only", Setups.flat(4), "kind(3, NONE, NONE) = 4; list(4, NONE) = 3; is(4, 3) = true");
        b.holds("one and two", Setups.flat(4), "kind(3, 2, NONE) = 4; list(4, NONE) = 4; is(4, 1) = false");
        b.holds("one, two and three", Setups.flat(4), "kind(3, 2, 1) = 4; list(4, NONE) = 5");
        b.refused("two is NONE, three is not", Setups.flat(4), "kind(1, NONE, ?) = NONE", 0, 1, 2, 3, 4, -2, 16, LEAST,
            MOST);
        b.sentence("Promise 2", "no such PARENTS;");
        b.holds("one: the least that there is", Setups.flat(5), "kind(0, NONE, NONE) = 5; is(5, 0) = true");
        b.holds("one: the last that there is", Setups.flat(5), "kind(4, NONE, NONE) = 5; is(5, 4) = true");
        b.holds("two: the least that there is", Setups.flat(5), "kind(4, 0, NONE) = 5; list(5, NONE) = 3");
        b.holds("two: the last that there is", Setups.flat(5), "kind(1, 4, NONE) = 5; list(5, NONE) = 4");
        b.holds("three: the least that there is", Setups.flat(5), "kind(2, 1, 0) = 5; list(5, NONE) = 4");
        b.holds("three: the last that there is", Setups.flat(5), "kind(2, 1, 4) = 5; list(5, NONE) = 5");
        b.refused("one, with one CLASS", "", "kind(?, NONE, NONE) = NONE", -2, -1, 1, 2, 15, 16);
        b.refused("one: none such", Setups.flat(5), "kind(?, NONE, NONE) = NONE", LEAST, -16, -2, -1, 5, 6, 15, 16, 32,
            MOST);
        b.refused("one: none such, with two PARENTS", Setups.flat(5), "kind(?, 1, NONE) = NONE", -2, -1, 5, 16, MOST);
        b.refused("one: none such, with three PARENTS", Setups.flat(5), "kind(?, 1, 2) = NONE", -2, -1, 5, 16, LEAST);
        b.refused("two: none such", Setups.flat(5), "kind(1, ?, NONE) = NONE", LEAST, -17, -16, -2, 5, 6, 15, 16, 32,
            MOST);
        b.refused("two: none such, with three PARENTS", Setups.flat(5), "kind(1, ?, 2) = NONE", LEAST, -2, 5, 16, MOST);
        b.refused("three: none such", Setups.flat(5), "kind(1, 2, ?) = NONE", LEAST, -17, -16, -2, 5, 6, 15, 16, 32,
            MOST);
        b.refused("one: a CLASS that was REFUSED", Setups.DIAMOND + "kind(0, 1, NONE) = -2",
            "kind(?, NONE, NONE) = NONE", 4);
        b.refused("two: its own number", Setups.DIAMOND, "kind(3, ?, NONE) = NONE", 4);
    }

    private static void kindAlike() {
        b.sentence("Promise 2", "two alike;");
        b.leavesNoTrace("one and two", Setups.flat(4), "kind(2, 2, NONE) = NONE");
        b.leavesNoTrace("one and two, ahead of another three", Setups.flat(4), "kind(3, 3, 1) = NONE");
        b.leavesNoTrace("one and three", Setups.flat(4), "kind(3, 1, 3) = NONE");
        b.leavesNoTrace("two and three", Setups.flat(4), "kind(1, 3, 3) = NONE");
        b.leavesNoTrace("all three", Setups.flat(4), "kind(3, 3, 3) = NONE");
        b.leavesNoTrace("CLASS 0, with no other one", "", "kind(0, 0, NONE) = NONE");
        b.leavesNoTrace("where another order would be REFUSED", Setups.DIAMOND, "kind(0, 3, 0) = NONE");
        b.holds("two CLASSES with the same PARENTS are not alike", Setups.DIAMOND, "kind(1, 2, NONE) = 4;"
            + "kind(3, 4, NONE) = 5; list(5, NONE) = 6");
    }

    private static void kindRefused() {
        b.sentence("Promise 2", "-2: it is REFUSED.");
        b.leavesNoTrace("at once", Setups.flat(2), "kind(0, 1, NONE) = -2");
        b.leavesNoTrace("behind a first one that comes", Setups.flat(3), "kind(1, 0, 2) = -2");
        b.leavesNoTrace("behind all but the last ones",
            Setups.DIAMOND + "kind(2, 1, NONE) = 4; kind(3, NONE, NONE) = 5;"
            + "kind(4, NONE, NONE) = 6", "kind(5, 6, NONE) = -2");
        b.leavesNoTrace("by the third PARENT", Setups.DIAMOND + "kind(2, 1, NONE) = 4", "kind(3, 0, 4) = -2");
        b.leavesNoTrace("as what would be the last CLASS", Setups.flat(15), "kind(0, 14, NONE) = -2");
        b.holds("the last CLASS comes behind it", Setups.flat(15), "kind(0, 14, NONE) = -2; kind(14, 0, NONE) = 15;"
            + "list(15, NONE) = 3; list(15, 1) = 14");
        b.leavesNoTrace("by RULE 1, with KEPT ones", Setups.SQUARE + "rule() = 1; call(0, 0x33) = 0",
            "kind(2, 3, NONE) = -2");
    }

    private static void is() {
        b.sentence("Promise 3", "Whether one CLASS IS another one. false, too: there are none such.");
        b.holds("the first and the last CLASS", Setups.line(16), "is(15, 15) = true; is(15, 14) = true;"
            + "is(15, 0) = true; is(0, 15) = false; is(14, 15) = false; is(0, 0) = true");
        b.holds("two that are apart", Setups.DIAMOND, "is(1, 2) = false; is(2, 1) = false; is(3, 2) = true;"
            + "is(2, 3) = false");
        b.allowedClasses("is(?, 0) = true");
        b.allowedClasses("is(?, ?) = true");
        b.refusedClasses("is(?, 0) = false");
        b.refusedClasses("is(0, ?) = false");
        b.refusedClasses("is(?, ?) = false");
        b.leavesNoTrace("asking changes nothing", Setups.SQUARE + "call(0, 0x33) = -2", "is(3, 1) = true");
    }

    private static void list() {
        b.sentence("Promise 4", "How many CLASSES LIST of a CLASS has (k NONE), or the k-th.");
        b.holds("k NONE", Setups.DIAMOND, "list(0, NONE) = 1; list(1, NONE) = 2; list(3, NONE) = 4");
        b.holds("the first one is the CLASS itself", Setups.DIAMOND, "list(0, 0) = 0; list(1, 0) = 1; list(3, 0) = 3");
        b.holds("the last one is CLASS 0", Setups.DIAMOND, "list(0, 0) = 0; list(1, 1) = 0; list(3, 3) = 0");
        b.holds("the longest one", Setups.line(16), "list(15, NONE) = 16; list(15, 0) = 15; list(15, 15) = 0;"
            + "list(14, NONE) = 15; list(14, 14) = 0");
        b.allowedClasses("list(?, 0) = ?");
        b.sentence("Promise 4", "NONE: there is none such, not so many.");
        b.refusedClasses("list(?, NONE) = NONE");
        b.refusedClasses("list(?, 0) = NONE");
        b.refused("not so many, of one", Setups.DIAMOND, "list(0, ?) = NONE", 1, 2, 15, 16, 17);
        b.refused("not so many, of four", Setups.DIAMOND, "list(3, ?) = NONE", 4, 5, 15, 16, 32, MOST);
        b.refused("not so many, of sixteen", Setups.line(16), "list(15, ?) = NONE", 16, 17, 32, MOST);
        b.refused("of another CLASS's LIST behind it", Setups.DIAMOND, "list(0, ?) = NONE", 16, 32, 48);
        b.refused("k below NONE", Setups.DIAMOND, "list(3, ?) = NONE", -2, -3, -16, -17, -48, LEAST);
        b.leavesNoTrace("asking changes nothing", Setups.SQUARE + "call(0, 0x33) = -2", "list(3, NONE) = 4");
    }

    private static void meet() {
        b.sentence("Promise 5", "How many MEETS two CLASSES have (k NONE), or the k-th, rising.");
        b.holds("none", Setups.flat(3), "meet(1, 2, NONE) = 0; meet(2, 1, NONE) = 0");
        b.holds("one", Setups.DIAMOND, "meet(1, 2, NONE) = 1; meet(2, 1, NONE) = 1; meet(1, 2, 0) = 3");
        b.holds("as many as can be", Setups.meets(13), "meet(1, 2, NONE) = 13; meet(1, 2, 0) = 3; meet(1, 2, 12) = 15;"
            + "meet(2, 1, 11) = 14");
        b.holds("rising", Setups.flat(3), "kind(2, 1, NONE) = 3; kind(0, NONE, NONE) = 4; kind(1, 2, NONE) = 5;"
            + "meet(1, 2, 0) = 3; meet(1, 2, 1) = 5; meet(2, 1, 0) = 3; meet(2, 1, 1) = 5");
        b.holds("of the last CLASS with itself", Setups.line(16), "meet(15, 15, NONE) = 1; meet(15, 15, 0) = 15;"
            + "meet(0, 15, 0) = 15; meet(15, 0, NONE) = 1");
        b.allowedClasses("meet(?, 0, 0) = ?");
        b.allowedClasses("meet(0, ?, 0) = ?");
        b.allowedClasses("meet(?, ?, NONE) = 1");
        b.sentence("Promise 5", "NONE: likewise.");
        b.refusedClasses("meet(?, 0, NONE) = NONE");
        b.refusedClasses("meet(0, ?, NONE) = NONE");
        b.refusedClasses("meet(?, ?, NONE) = NONE");
        b.refusedClasses("meet(?, 0, 0) = NONE");
        b.refusedClasses("meet(0, ?, 0) = NONE");
        b.refused("not so many, of none", Setups.flat(3), "meet(1, 2, ?) = NONE", 0, 1, 16);
        b.refused("not so many, of one", Setups.DIAMOND, "meet(1, 2, ?) = NONE", 1, 2, 16, 32, MOST);
        b.refused("not so many, of thirteen", Setups.meets(13), "meet(1, 2, ?) = NONE", 13, 14, 16, MOST);
        b.refused("k below NONE", Setups.DIAMOND, "meet(1, 2, ?) = NONE", -2, -3, -16, -32, LEAST);
        b.leavesNoTrace("asking changes nothing", Setups.SQUARE + "call(0, 0x33) = -2", "meet(1, 2, NONE) = 1");
    }
}
