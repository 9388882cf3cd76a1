import java.util.ArrayList;
import java.util.List;

/** What other calls answer behind a run: questions about all that there is, and changes with questions between. */
final class Trace {
    private static final int MOST_ASKED_CALLS = 24;

    private final List<String> questions = new ArrayList<>();
    private final List<String> changes = new ArrayList<>();
    private final int classes;
    private final int functions;
    private final int[] places;
    private final int[] methods;

    /** The questions are drawn from an object behind the run. */
    Trace(TupleMethods x) {
        classes = x.count(0);
        functions = x.count(1);
        places = new int[functions];
        methods = new int[functions];
        for (int f = 0; f < functions; f++) {
            places[f] = x.of(f, 0);
            methods[f] = x.of(f, 1);
        }
        askCounts(questions);
        askClasses();
        for (int f = 0; f < functions; f++) {
            askFunction(f);
            askMethods(f);
            askCalls(f);
        }
        makeChanges();
    }

    List<Asked> questions() {
        return calls(questions);
    }

    List<Asked> changes() {
        return calls(changes);
    }

    private static List<Asked> calls(List<String> texts) {
        List<Asked> row = new ArrayList<>();
        for (String text : texts) {
            row.add(Asked.one(text));
        }
        return row;
    }

    private void askCounts(List<String> row) {
        for (int what = 0; what < 7; what++) {
            row.add("count(" + what + ")");
        }
        for (int f = 0; f < functions; f++) {
            for (int k = 0; k < 6; k++) {
                row.add("kept(" + f + ", " + k + ")");
            }
            row.add("of(" + f + ", 1)");
        }
    }

    private void askClasses() {
        int step = classes > 8 ? 3 : 1;
        for (int c = 0; c <= classes && c < 17; c++) {
            for (int k = -1; k <= c; k++) {
                questions.add("list(" + c + ", " + k + ")");
            }
            for (int d = c % step; d <= classes; d += step) {
                questions.add("is(" + c + ", " + d + ")");
                questions.add("meet(" + c + ", " + d + ", NONE)");
                questions.add("meet(" + c + ", " + d + ", 0)");
            }
        }
    }

    private void askFunction(int f) {
        for (int what = 0; what < 10; what++) {
            questions.add("of(" + f + ", " + what + ")");
        }
        for (int k = 0; k < 4; k++) {
            questions.add("clash(" + f + ", " + k + ")");
            questions.add("gap(" + f + ", " + k + ")");
        }
        questions.add("settle(" + f + ")");
        for (int place = 0; place < places[f]; place++) {
            for (int c = 0; c < classes; c++) {
                questions.add("pole(" + f + ", " + place + ", " + c + ")");
            }
        }
    }

    private void askMethods(int f) {
        for (int m = 0; m < 12; m++) {
            for (int what = 0; what < 5; what++) {
                questions.add("at(" + f + ", " + m + ", " + what + ")");
            }
            if ((methods[f] >> m & 1) != 0) {
                questions.add("fight(" + f + ", " + m + ", 0)");
                questions.add("fight(" + f + ", 1, " + m + ")");
            }
        }
    }

    private void askCalls(int f) {
        int asked = 0;
        for (int call : someCalls(f, MOST_ASKED_CALLS)) {
            questions.add("answer(" + f + ", " + call + ")");
            questions.add("applicable(" + f + ", " + call + ")");
            questions.add("chain(" + f + ", " + call + ", NONE)");
            questions.add("chain(" + f + ", " + call + ", 0)");
            questions.add("broken(" + f + ", " + call + ")");
            questions.add("work(" + f + ", " + call + ")");
            if (asked++ % 4 == 0) {
                questions.add("change(" + f + ", " + call + ")");
            }
        }
    }

    /** CALLS of a FUNCTION, rising, the first and the last among them. */
    private List<Integer> someCalls(int f, int most) {
        List<Integer> all = new ArrayList<>();
        for (int call = 0; call < 1 << 4 * places[f]; call++) {
            if ((call & 15) < classes && (call >> 4 & 15) < classes && call >> 8 < classes) {
                all.add(call);
            }
        }
        List<Integer> some = new ArrayList<>();
        int count = Math.min(most, all.size());
        for (int i = 0; i < count; i++) {
            some.add(all.get(count == 1 ? 0 : i * (all.size() - 1) / (count - 1)));
        }
        return some;
    }

    private void makeChanges() {
        for (int f = 0; f < functions; f++) {
            for (int call : someCalls(f, 5)) {
                changes.add("call(" + f + ", " + call + ")");
                changes.add("method(" + f + ", " + call + ", 1, 7)");
            }
            changes.add("drop(" + f + ", 11)");
            changes.add("drop(" + f + ", 0)");
            changes.add("method(" + f + ", 0, 2, 3)");
            changes.add("method(" + f + ", " + (classes - 1) + ", 3, 4)");
            changes.add("call(" + f + ", 0)");
        }
        askCounts(changes);
        changes.add("kind(0, NONE, NONE)");
        changes.add("kind(" + (classes - 1) + ", 0, NONE)");
        changes.add("list(" + classes + ", NONE)");
        changes.add("list(" + (classes + 1) + ", NONE)");
        changes.add("function(1)");
        changes.add("method(" + functions + ", 0, 0, 0)");
        askCounts(changes);
        changes.add("rule()");
        for (int f = 0; f < functions; f++) {
            for (int call : someCalls(f, 3)) {
                changes.add("call(" + f + ", " + call + ")");
                changes.add("work(" + f + ", " + call + ")");
            }
            changes.add("of(" + f + ", 4)");
            changes.add("of(" + f + ", 7)");
        }
        askCounts(changes);
        changes.add("rule()");
        askCounts(changes);
    }
}
