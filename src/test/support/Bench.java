import java.util.ArrayList;
import java.util.List;

/** Tests that are runs of calls, each on a new object, under the sentence of the document that they are for. */
final class Bench {
    static final int LEAST = Integer.MIN_VALUE;
    static final int MOST = Integer.MAX_VALUE;

    /** No object is used for more calls; what it answers then is free. */
    static final int MOST_CALLS = 512;

    private final Document document = new Document();
    private final boolean telling;
    private String sentence = "";
    private int tests = 0;
    private int wrong = 0;

    /** Each test is told by its name, if there is an argument. */
    Bench(String[] args) {
        telling = args.length > 0;
    }

    /** The tests that follow are for these words of a section. */
    void sentence(String section, String words) {
        sentence = section + ", \"" + words + "\"";
        if (!document.says(section, words)) {
            fail("", "the document does not say so");
        }
    }

    /** A test: a run whose answers are as due. */
    void holds(String what, String... parts) {
        begin(what);
        check(what, Asked.run(String.join(";", parts)));
    }

    /** A test: behind a run a call has its due answer, and what other calls answer is as if it had not been made. */
    void leavesNoTrace(String what, String setup, String call) {
        String name = what + ": " + call;
        begin(name);
        List<Asked> before = Asked.run(setup);
        Asked last = Asked.one(call);
        List<Asked> all = new ArrayList<>(before);
        all.add(last);
        if (!check(name, all)) {
            return;
        }
        Trace trace = new Trace(made(before));
        compare(name, before, last, trace.changes());
        List<Asked> questions = trace.questions();
        int most = MOST_CALLS - all.size();
        for (int from = 0; from < questions.size(); from += most) {
            compare(name, before, last, questions.subList(from, Math.min(questions.size(), from + most)));
        }
    }

    /** Tests, one for each number: the call with the number instead of '?' is refused and leaves no trace. */
    void refused(String what, String setup, String call, int... numbers) {
        for (int number : numbers) {
            leavesNoTrace(what, setup, call.replace("?", "" + number));
        }
    }

    /** Tests, one for each number: the call with the number instead of '?' has its due answer. */
    void allowed(String what, String setup, String call, int... numbers) {
        for (int number : numbers) {
            String told = call.replace("?", "" + number);
            holds(what + ": " + told, setup, told);
        }
    }

    /** Where '?' stands for a FUNCTION, each of them as that of the square. */
    void allowedFunctions(String call) {
        allowed("the only FUNCTION", Setups.SQUARE, call, 0);
        allowed("each of four FUNCTIONS", Setups.FOUR, call, 0, 1, 2, 3);
    }

    /** Where '?' stands for a CALL of FUNCTION 0, whose METHOD 0 is for the CALL 0. */
    void allowedCalls(String call) {
        for (int classes : new int[] {1, 4, 16}) {
            for (int places = 1; places <= 3; places++) {
                String what = "the first and the last CALL of " + classes + " CLASSES and " + places + " PLACES";
                allowed(what, Setups.one(classes, places), call, 0, last(classes, places));
            }
        }
        allowed("the last CLASS at one PLACE", Setups.one(16, 3), call, 0x00F, 0x0F0, 0xF00);
    }

    /** Where '?' stands for what a METHOD of FUNCTION 0 is for, and there is none yet: the last such number. */
    void allowedTargets(String call) {
        for (int classes : new int[] {1, 4, 16}) {
            for (int places = 1; places <= 3; places++) {
                String what = "the last number of " + classes + " CLASSES and " + places + " PLACES";
                String setup = Setups.line(classes) + "function(" + places + ") = 0;";
                allowed(what, setup, call, last(classes, places));
            }
        }
    }

    private static int last(int classes, int places) {
        return (classes - 1) * (places == 1 ? 0x001 : places == 2 ? 0x011 : 0x111);
    }

    /** Where '?' stands for a CLASS of a line. */
    void allowedClasses(String call) {
        allowed("the only CLASS", "", call, 0);
        allowed("the first and the last CLASS of four", Setups.line(4), call, 0, 3);
        allowed("the first and the last CLASS of sixteen", Setups.line(16), call, 0, 15);
    }

    /** Where '?' stands for a FUNCTION: with none, with one, with all four. */
    void refusedFunctions(String call) {
        refused("no FUNCTION yet", Setups.DIAMOND, call, -1, 0, 1, 4);
        refused("no such FUNCTION, with one", Setups.SQUARE, call, -1, 1, 2, 3, 4);
        refused("no such FUNCTION, with four", Setups.FOUR, call, LEAST, -4, -2, -1, 4, 5, 16, 32, MOST);
    }

    /** Where '?' stands for a METHOD of FUNCTION 0; all but this one hold for METHODS 0 and 1 of the square. */
    void refusedMethods(String call) {
        refused("no such METHOD, without any", Setups.DIAMOND + "function(2) = 0", call, -1, 0, 1, 11, 12);
        refused("no such METHOD, with two", Setups.SQUARE, call, LEAST, -32, -31, -2, -1, 2, 3, 11, 12, 31, 32, 33,
            MOST);
        refused("a METHOD that went", Setups.SQUARE + "drop(0, 1) = 1", call, 1);
        refused("no such METHOD, with twelve", Setups.methods(13, 12), call, -1, 12, 13, 16, 32, 43, MOST);
    }

    /** Where '?' stands for a CALL of FUNCTION 0, or what a METHOD of it is for. */
    void refusedCalls(String call) {
        refused("no such CLASS, with one CLASS", Setups.one(1, 1), call, -1, 1, 15, 16);
        refused("no such CLASS, with one CLASS and two PLACES", Setups.one(1, 2), call, -1, 0x01, 0x10, 0x11, 0x100);
        refused("no such CLASS, with one CLASS and three PLACES", Setups.one(1, 3), call, -1, 1, 0x10, 0x100, 0x1000);
        refused("no such CLASS at PLACE 0", Setups.one(4, 1), call, LEAST, -4096, -16, -1, 4, 5, 15);
        refused("more PLACES than one", Setups.one(4, 1), call, 0x10, 0x11, 0x13, 0x100, 0x1000, 0x10000, MOST);
        refused("no such CLASS at PLACE 0", Setups.one(4, 2), call, 0x04, 0x34, 0x0F, 0x3F);
        refused("no such CLASS at PLACE 1", Setups.one(4, 2), call, LEAST, -16, -1, 0x40, 0x43, 0xF0, 0xF3);
        refused("more PLACES than two", Setups.one(4, 2), call, 0x100, 0x133, 0x333, 0x1000, 0x10000, MOST);
        refused("no such CLASS at PLACE 0", Setups.one(4, 3), call, 0x004, 0x334, 0x33F);
        refused("no such CLASS at PLACE 1", Setups.one(4, 3), call, 0x040, 0x343, 0x3F3);
        refused("no such CLASS at PLACE 2", Setups.one(4, 3), call, LEAST, -256, -1, 0x400, 0x433, 0xF33);
        refused("more PLACES than three", Setups.one(4, 3), call, 0x1000, 0x1333, 0x3333, 0x10000, 0x10000000, MOST);
        refused("of sixteen CLASSES the one behind the last", Setups.one(16, 1), call, -1, 16, 17, MOST);
        refused("of sixteen CLASSES the one behind the last", Setups.one(16, 2), call, -1, 256, 257, MOST);
        refused("of sixteen CLASSES the one behind the last", Setups.one(16, 3), call, -1, 4096, 4097, MOST);
    }

    /** Where '?' stands for a CLASS; FUNCTION 0 is there with a METHOD. */
    void refusedClasses(String call) {
        refused("no such CLASS, with one", Setups.one(1, 1), call, -1, 1, 2);
        refused("no such CLASS, with four", Setups.one(4, 1), call, LEAST, -16, -2, -1, 4, 5, 15, 16, 32, 33, MOST);
        refused("no such CLASS, with sixteen", Setups.one(16, 1), call, -1, 16, 17, 32, MOST);
        refused("a CLASS that was REFUSED", Setups.SQUARE + "kind(0, 1, NONE) = -2", call, 4);
    }

    void end() {
        System.out.println(tests + " tests, " + wrong + " are not as due");
        if (wrong != 0 || tests == 0) {
            System.exit(1);
        }
    }

    private void begin(String what) {
        tests++;
        if (telling) {
            System.out.println(sentence + " | " + what);
        }
    }

    private void fail(String what, String why) {
        wrong++;
        System.out.println(sentence + " | " + what + " | " + why);
    }

    private boolean check(String what, List<Asked> run) {
        if (run.size() > MOST_CALLS || run.stream().allMatch(c -> c.due == null)) {
            fail(what, "the run is too long, or nothing is due in it");
            return false;
        }
        TupleMethods x = new TupleMethods();
        for (int i = 0; i < run.size(); i++) {
            Asked c = run.get(i);
            String got = c.of(x);
            if (c.due != null && !got.equals(c.due)) {
                fail(what, "call " + (i + 1) + ", " + c.text + ", answered " + got + ", due is " + c.due);
                return false;
            }
        }
        return true;
    }

    private static TupleMethods made(List<Asked> run) {
        TupleMethods x = new TupleMethods();
        for (Asked c : run) {
            c.of(x);
        }
        return x;
    }

    private void compare(String what, List<Asked> before, Asked last, List<Asked> later) {
        TupleMethods without = made(before);
        TupleMethods with = made(before);
        last.of(with);
        if (before.size() + 1 + later.size() > MOST_CALLS) {
            fail(what, "the trace is too long");
        }
        for (Asked c : later) {
            String got = c.of(with);
            String want = c.of(without);
            if (!got.equals(want)) {
                fail(what, "behind it " + c.text + " answered " + got + ", without it " + want);
                return;
            }
        }
    }
}
