/** Runs that tests begin with, told as texts. */
final class Setups {
    /** CLASSES 1 and 2 of 0, and 3 of both, 1 first. */
    static final String DIAMOND = "kind(0, NONE, NONE) = 1; kind(0, NONE, NONE) = 2; kind(1, 2, NONE) = 3;";

    /**
     * The diamond with a FUNCTION of two PLACES, METHOD 0 for (1, 0) and 1 for (0, 2). Of the 16 CALLS 8 take METHOD
     * 0 (1 or 3 at PLACE 0), 8 take METHOD 1 (2 or 3 at PLACE 1), 4 both, 4 none.
     */
    static final String SQUARE = DIAMOND + "function(2) = 0;" + squareMethods(0);

    /** The diamond with four FUNCTIONS, each one as that of the square. */
    static final String FOUR = DIAMOND + "function(2) = 0; function(2) = 1; function(2) = 2; function(2) = 3;"
        + squareMethods(0) + squareMethods(1) + squareMethods(2) + squareMethods(3);

    private Setups() {
    }

    private static String squareMethods(int function) {
        return "method(" + function + ", 0x01, 1, 5) = 0; method(" + function + ", 0x20, 0, 7) = 1;";
    }

    /** CLASSES 0 to n - 1, each with the one before it as PARENT. */
    static String line(int n) {
        StringBuilder s = new StringBuilder();
        for (int c = 1; c < n; c++) {
            s.append("kind(").append(c - 1).append(", NONE, NONE) = ").append(c).append(';');
        }
        return s.toString();
    }

    /** CLASSES 0 to n - 1, each but 0 with 0 as PARENT. */
    static String flat(int n) {
        StringBuilder s = new StringBuilder();
        for (int c = 1; c < n; c++) {
            s.append("kind(0, NONE, NONE) = ").append(c).append(';');
        }
        return s.toString();
    }

    /** A line of CLASSES and FUNCTION 0, whose METHOD 0 (KIND 0, VALUE 5) is the ANSWER of every CALL. */
    static String one(int classes, int places) {
        return line(classes) + "function(" + places + ") = 0; method(0, 0, 0, 5) = 0;";
    }

    /** A line of CLASSES and FUNCTION 0 of one PLACE, with METHODS 0 to n - 1, each for the CLASS of its number. */
    static String methods(int classes, int n) {
        StringBuilder s = new StringBuilder(line(classes)).append("function(1) = 0;");
        for (int m = 0; m < n; m++) {
            s.append("method(0, ").append(m).append(", 0, ").append(m).append(") = ").append(m).append(';');
        }
        return s.toString();
    }

    /** A line of twelve CLASSES and FUNCTION 0 of two PLACES, METHOD m for (m, 11 - m): none is AT MOST another. */
    static String crossing(int n) {
        StringBuilder s = new StringBuilder(line(12)).append("function(2) = 0;");
        for (int m = 0; m < n; m++) {
            s.append("method(0, ").append(m + 16 * (11 - m)).append(", 0, 0) = ").append(m).append(';');
        }
        return s.toString();
    }

    /** CLASSES 1 and 2 of 0, n more that are both, and FUNCTION 0 of one PLACE with METHODS for 1 and 2. */
    static String meets(int n) {
        StringBuilder s = new StringBuilder(flat(3));
        for (int c = 3; c < n + 3; c++) {
            s.append("kind(1, 2, NONE) = ").append(c).append(';');
        }
        return s.append("function(1) = 0; method(0, 1, 0, 0) = 0; method(0, 2, 0, 0) = 1;").toString();
    }

    /** A run told n times. */
    static String times(int n, String run) {
        return run.repeat(n);
    }
}
