import java.util.ArrayList;
import java.util.List;
import java.util.regex.Matcher;
import java.util.regex.Pattern;

/** One call of the face, as a text tells it: "kind(0, NONE, NONE) = 1"; what is behind the sign is due. */
final class Asked {
    private static final Pattern FORM = Pattern.compile("(\\w+)\\(([^()]*)\\)(?: = (\\S+))?");

    final String text;
    final String name;
    final String due;
    private final int[] c;

    private Asked(String text, String name, String due, int[] arguments) {
        this.text = text;
        this.name = name;
        this.due = due;
        this.c = arguments;
    }

    /** The calls of a run, told one behind the other with ';' between them. */
    static List<Asked> run(String text) {
        List<Asked> calls = new ArrayList<>();
        for (String part : text.split(";")) {
            if (!part.isBlank()) {
                calls.add(one(part.trim()));
            }
        }
        return calls;
    }

    static Asked one(String text) {
        Matcher m = FORM.matcher(text);
        if (!m.matches()) {
            throw new IllegalArgumentException("not a call: " + text);
        }
        String[] words = m.group(2).isBlank() ? new String[0] : m.group(2).split(",");
        int[] arguments = new int[words.length];
        for (int i = 0; i < words.length; i++) {
            arguments[i] = number(words[i].trim());
        }
        String call = m.group(1) + "(" + m.group(2) + ")";
        return new Asked(call, m.group(1), m.group(3) == null ? null : answerOf(m.group(3)), arguments);
    }

    private static int number(String word) {
        switch (word) {
            case "NONE": return -1;
            case "LEAST": return Integer.MIN_VALUE;
            case "MOST": return Integer.MAX_VALUE;
            default: return Integer.decode(word);
        }
    }

    private static String answerOf(String word) {
        if (word.equals("true") || word.equals("false")) {
            return word;
        }
        return word.equals("throws") ? "throws.NoSuchElementException" : "" + number(word);
    }

    /** The answer of an object, or which exception it throws. */
    String of(TupleMethods x) {
        try {
            return name.equals("is") ? "" + x.is(c[0], c[1]) : "" + answer(x);
        } catch (RuntimeException e) {
            return "throws." + e.getClass().getSimpleName();
        }
    }

    private int answer(TupleMethods x) {
        switch (name) {
            case "kind": return x.kind(c[0], c[1], c[2]);
            case "list": return x.list(c[0], c[1]);
            case "meet": return x.meet(c[0], c[1], c[2]);
            case "function": return x.function(c[0]);
            case "method": return x.method(c[0], c[1], c[2], c[3]);
            case "drop": return x.drop(c[0], c[1]);
            case "rule": return x.rule();
            case "count": return x.count(c[0]);
            case "of": return x.of(c[0], c[1]);
            case "at": return x.at(c[0], c[1], c[2]);
            case "call": return x.call(c[0], c[1]);
            case "answer": return x.answer(c[0], c[1]);
            case "applicable": return x.applicable(c[0], c[1]);
            case "chain": return x.chain(c[0], c[1], c[2]);
            case "broken": return x.broken(c[0], c[1]);
            case "work": return x.work(c[0], c[1]);
            case "kept": return x.kept(c[0], c[1]);
            case "clash": return x.clash(c[0], c[1]);
            case "gap": return x.gap(c[0], c[1]);
            case "fight": return x.fight(c[0], c[1], c[2]);
            case "pole": return x.pole(c[0], c[1], c[2]);
            case "change": return x.change(c[0], c[1]);
            case "settle": return x.settle(c[0]);
            default: throw new IllegalArgumentException("no call of the face: " + name);
        }
    }
}
