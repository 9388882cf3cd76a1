/** "An object is used for at most 512 calls after it has been made": each answer up to the last one is as due. */
public final class BoundaryLast {
    private static final int BEFORE_LAST = Bench.MOST_CALLS - 1;

    /** Runs that leave the square as it is. */
    private static final String ASKING = "of(0, 7) = 4; settle(0) = 1; change(0, 0) = 4; clash(0, 0) = 0x21;"
        + "gap(0, 0) = 0; fight(0, 0, 1) = 0x21; pole(0, 1, 3) = 2; work(0, 0x01) = 5; chain(0, 0x20, 0) = 1;"
        + "broken(0, 0x33) = 2; applicable(0, 0x33) = 3; at(0, 1, 3) = 4; meet(1, 2, 0) = 3; list(3, 2) = 2;"
        + "is(3, 2) = true; kept(0, 0) = NONE; count(3) = 2;";
    private static final String CHANGING = "method(0, 0x21, 3, 9) = 2; answer(0, 0x33) = 2; of(0, 5) = 0;"
        + "drop(0, 2) = 2; answer(0, 0x33) = -2; of(0, 5) = 1;";
    private static final String RULING = "rule() = 1; answer(0, 0x21) = 0; at(0, 0, 3) = 8; rule() = 0;"
        + "answer(0, 0x21) = -2; at(0, 0, 3) = 4;";
    private static final String REFUSED = "kind(0, 1, NONE) = -2; kind(4, NONE, NONE) = NONE; is(4, 0) = false;"
        + "list(3, 4) = NONE; meet(1, 2, 1) = NONE; function(0) = NONE; method(0, 0x01, 0, 0) = -2;"
        + "method(0, 0, 4, 0) = NONE; drop(0, 2) = NONE; count(7) = NONE; of(0, 10) = NONE; at(0, 2, 0) = throws;"
        + "call(0, 4) = -3; answer(1, 0) = -3; applicable(0, 4) = NONE; chain(0, 1, 1) = NONE; broken(0, 64) = NONE;"
        + "work(0, 0) = throws; kept(0, 0) = NONE; clash(0, 1) = NONE; gap(0, 1) = NONE; fight(0, 0, 0) = NONE;"
        + "pole(0, 2, 0) = NONE; change(0, 1) = -2; settle(1) = NONE;";

    private static final String[] LAST = {"kind(3, NONE, NONE) = 4", "kind(1, 2, 3) = -2", "kind(4, NONE, NONE) = NONE",
        "is(3, 0) = true", "is(0, 4) = false", "list(3, NONE) = 4", "list(3, 3) = 0", "list(3, 4) = NONE",
        "meet(1, 2, NONE) = 1", "meet(1, 2, 1) = NONE", "function(3) = 1", "function(4) = NONE",
        "method(0, 0x21, 0, 0) = 2", "method(0, 0x20, 0, 0) = -2", "method(0, 0x40, 0, 0) = NONE", "drop(0, 0) = 1",
        "drop(0, 2) = NONE", "rule() = 1", "count(0) = 4", "count(1) = 1", "count(2) = 0", "count(3) = 2",
        "count(4) = 0", "count(5) = 0", "count(6) = 0", "count(7) = NONE", "of(0, 0) = 2", "of(0, 1) = 3",
        "of(0, 2) = 16", "of(0, 3) = 4", "of(0, 4) = 4", "of(0, 5) = 1", "of(0, 6) = 1", "of(0, 7) = 4", "of(0, 8) = 0",
        "of(0, 9) = 0", "of(1, 0) = NONE", "at(0, 1, 0) = 0x20", "at(0, 1, 1) = 0", "at(0, 1, 2) = 7",
        "at(0, 1, 3) = 4",
        "at(0, 1, 4) = 8", "at(0, 2, 0) = throws", "at(0, 0, 5) = throws", "call(0, 0x00) = NONE", "call(0, 0x01) = 0",
        "call(0, 0x21) = -2", "call(0, 0x04) = -3", "answer(0, 0x21) = -2", "answer(0, 0x40) = -3",
        "applicable(0, 0x33) = 3", "applicable(0, 0x100) = NONE", "chain(0, 0x01, NONE) = 1", "chain(0, 0x20, 0) = 1",
        "chain(0, 0x21, 0) = NONE", "broken(0, 0x33) = 2", "broken(0, 0x04) = NONE", "work(0, 0x01) = 5",
        "work(0, 0x21) = throws", "work(1, 0) = throws", "kept(0, 0) = NONE", "clash(0, 0) = 0x21",
        "clash(0, 1) = NONE",
        "gap(0, 0) = 0", "gap(0, 1) = NONE", "fight(0, 0, 1) = 0x21", "fight(0, 1, 1) = NONE", "pole(0, 0, 3) = 1",
        "pole(0, 0, 4) = NONE", "change(0, 0) = 4", "change(0, 1) = -2", "change(0, 4) = NONE", "settle(0) = 1",
        "settle(1) = NONE"};

    private static Bench b;

    public static void main(String[] args) {
        b = new Bench(args);
        b.sentence("What it is", "An object is used for at most 512 calls after it has been made");
        for (String call : LAST) {
            b.holds("behind questions, the last is " + call, before(Setups.SQUARE, ASKING), call);
            b.holds("behind METHODS that come and go, the last is " + call, before(Setups.SQUARE, CHANGING), call);
            b.holds("behind RULES, the last is " + call, before(Setups.SQUARE, RULING), call);
            b.holds("behind refused calls, the last is " + call, before(Setups.SQUARE, REFUSED), call);
        }
        asked();
        sameCall();
        full();
        b.end();
    }

    /** A setup and a run told again and again, 511 calls in all. */
    private static String before(String setup, String again) {
        int room = BEFORE_LAST - Asked.run(setup).size();
        int length = Asked.run(again).size();
        return setup + ";" + again.repeat(room / length) + "answer(0, 0) = NONE;".repeat(room % length);
    }

    /** The square has come with six calls, so that 505 are left ahead of the last one. */
    private static void asked() {
        String one = before(Setups.SQUARE, "call(0, 0x01) = 0;");
        b.holds("HITS, all but the first", one, "count(4) = 504");
        b.holds("one MISS, the first", one, "count(5) = 1");
        b.holds("one KEPT", one, "count(6) = 1");
        b.holds("which one is KEPT", one, "kept(0, 0) = 0x01");
        b.holds("a HIT", one, "call(0, 0x01) = 0");
        b.holds("a MISS", one, "call(0, 0x21) = -2");
        String seven = before(Setups.SQUARE, "call(0, 0x00) = NONE; call(0, 0x01) = 0; call(0, 0x21) = -2;"
            + "call(0, 0x33) = -2; call(0, 0x20) = 1; call(0, 0x12) = NONE; call(0, 0x03) = 0;");
        b.holds("MISSES, each of 504 and one answer", seven, "count(5) = 504");
        b.holds("no HIT", seven, "count(4) = 0");
        b.holds("six KEPT", seven, "count(6) = 6");
        b.holds("the oldest KEPT", seven, "kept(0, 0) = 0x01");
        b.holds("the latest KEPT", seven, "kept(0, 5) = 0x03");
        b.holds("a MISS", seven, "call(0, 0x00) = NONE");
        String dropped = before(Setups.SQUARE, "call(0, 0x21) = -2; method(0, 0x20, 0, 0) = -2;"
            + "method(0, 0x00, 0, 0) = 2; drop(0, 2) = 2; call(0, 0x21) = -2;");
        b.holds("101 times dropped: no HIT but where the run begins again", dropped, "count(4) = 100");
        b.holds("101 times dropped: MISSES", dropped, "count(5) = 102");
    }

    /** One call of the face, 511 or 512 times. */
    private static void sameCall() {
        b.holds("512 RULES", Setups.times(256, "rule() = 1; rule() = 0;"));
        b.holds("511 RULES", Setups.times(255, "rule() = 1; rule() = 0;"), "rule() = 1; count(2) = 1");
        b.holds("511 CLASSES, most of them refused", Setups.line(16), Setups.times(496, "kind(15, NONE, NONE) = NONE;"),
            "count(0) = 16");
        b.holds("REFUSED ones, and the last one comes", Setups.flat(2), Setups.times(510, "kind(0, 1, NONE) = -2;"),
            "kind(1, 0, NONE) = 2");
        b.holds("511 FUNCTIONS, most of them refused",
            "function(1) = 0; function(2) = 1; function(3) = 2; function(1) = 3;",
            Setups.times(507, "function(1) = NONE;"), "count(1) = 4");
        b.holds("METHODS, most of them refused", Setups.methods(13, 12), Setups.times(485,
            "method(0, 12, 0, 0) = NONE;"),
            "of(0, 1) = 4095; answer(0, 12) = 11");
        b.holds("a METHOD that comes and goes", "function(1) = 0;", Setups.times(255,
            "method(0, 0, 0, 7) = 0; drop(0, 0) = 0;"),
            "method(0, 0, 0, 7) = 0");
        b.holds("512 questions of a new object", Setups.times(512, "is(0, 0) = true;"));
        b.holds("exceptions", "function(1) = 0;", Setups.times(255, "work(0, 0) = throws; at(0, 0, 0) = throws;"),
            "work(0, 0) = throws");
    }

    /** All CLASSES, FUNCTIONS and METHODS that there can be: 15 and 4 and 48 calls. */
    private static void full() {
        StringBuilder s = new StringBuilder(Setups.line(16));
        for (int f = 0; f < 4; f++) {
            s.append("function(3) = ").append(f).append(';');
            for (int m = 0; m < 12; m++) {
                s.append("method(").append(f).append(", ").append(0x111 * (m + f)).append(", 1, 1) = ").append(m)
                    .append(';');
            }
        }
        String questions = "of(0, 7) = 1728; of(3, 7) = 2197; settle(0) = 0; settle(3) = 0; change(0, 0xFFF) = 1;"
            + "change(3, 0) = 1899; pole(3, 2, 15) = 14; pole(3, 2, 2) = 0; fight(0, 0, 11) = NONE;"
            + "call(3, 0xFFF) = 11; work(3, 0xFFF) = 12; chain(3, 0xFFF, 11) = 0; of(3, 3) = 1899; of(0, 4) = 0;";
        int room = Bench.MOST_CALLS - Asked.run(s.toString()).size();
        int length = Asked.run(questions).size();
        b.holds("all that there can be", s.toString(), questions.repeat(room / length),
            "is(15, 0) = true;".repeat(room % length));
    }
}
