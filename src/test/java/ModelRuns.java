import java.util.ArrayList;
import java.util.Arrays;
import java.util.List;
import java.util.NoSuchElementException;
import java.util.Random;
import java.util.TreeMap;

/** Runs of calls drawn by fixed seeds, each answer held against a slow model that follows the document's words. */
public final class ModelRuns {
    private static final int CALLS = 512;
    private static final int[] ODD = {-1000, -4, -3, -2, -1, 16, 17, 256, 4096, Integer.MIN_VALUE, Integer.MAX_VALUE};

    private static int wrong = 0;

    public static void main(String[] args) {
        int seeds = args.length > 0 ? Integer.parseInt(args[0]) : 400;
        int from = args.length > 1 ? Integer.parseInt(args[1]) : 0;
        long compared = 0;
        for (int seed = from; seed < from + seeds && wrong < 20; seed++) {
            compared += run(seed);
        }
        System.out.println(compared + " answers compared, " + wrong + " are not as due");
        if (wrong != 0) {
            System.exit(1);
        }
    }

    private static int run(int seed) {
        Random random = new Random(seed);
        TupleMethods program = new TupleMethods();
        Model model = new Model();
        Draw draw = new Draw(random, model);
        for (int i = 0; i < CALLS; i++) {
            int[] call = draw.next(i);
            String got = ask(program, null, call);
            String due = ask(null, model, call);
            if (!got.equals(due)) {
                wrong++;
                System.out.println("seed " + seed + ", call " + i + " " + Arrays.toString(call) + " answered " + got
                    + ", due is " + due);
                return i + 1;
            }
        }
        return CALLS;
    }

    /** One call of the face, by its promise's number, on the program or else on the model. */
    private static String ask(TupleMethods x, Model y, int[] c) {
        try {
            switch (c[0]) {
                case 2: return "" + (y == null ? x.kind(c[1], c[2], c[3]) : y.kind(c[1], c[2], c[3]));
                case 3: return "" + (y == null ? x.is(c[1], c[2]) : y.is(c[1], c[2]));
                case 4: return "" + (y == null ? x.list(c[1], c[2]) : y.list(c[1], c[2]));
                case 5: return "" + (y == null ? x.meet(c[1], c[2], c[3]) : y.meet(c[1], c[2], c[3]));
                case 6: return "" + (y == null ? x.function(c[1]) : y.function(c[1]));
                case 7: return "" + (y == null ? x.method(c[1], c[2], c[3], c[4]) : y.method(c[1], c[2], c[3], c[4]));
                case 8: return "" + (y == null ? x.drop(c[1], c[2]) : y.drop(c[1], c[2]));
                case 9: return "" + (y == null ? x.rule() : y.rule());
                case 10: return "" + (y == null ? x.count(c[1]) : y.count(c[1]));
                case 11: return "" + (y == null ? x.of(c[1], c[2]) : y.of(c[1], c[2]));
                case 12: return "" + (y == null ? x.at(c[1], c[2], c[3]) : y.at(c[1], c[2], c[3]));
                case 13: return "" + (y == null ? x.call(c[1], c[2]) : y.call(c[1], c[2]));
                case 14: return "" + (y == null ? x.answer(c[1], c[2]) : y.answer(c[1], c[2]));
                case 15: return "" + (y == null ? x.applicable(c[1], c[2]) : y.applicable(c[1], c[2]));
                case 16: return "" + (y == null ? x.chain(c[1], c[2], c[3]) : y.chain(c[1], c[2], c[3]));
                case 17: return "" + (y == null ? x.broken(c[1], c[2]) : y.broken(c[1], c[2]));
                case 18: return "" + (y == null ? x.work(c[1], c[2]) : y.work(c[1], c[2]));
                case 19: return "" + (y == null ? x.kept(c[1], c[2]) : y.kept(c[1], c[2]));
                case 20: return "" + (y == null ? x.clash(c[1], c[2]) : y.clash(c[1], c[2]));
                case 21: return "" + (y == null ? x.gap(c[1], c[2]) : y.gap(c[1], c[2]));
                case 22: return "" + (y == null ? x.fight(c[1], c[2], c[3]) : y.fight(c[1], c[2], c[3]));
                case 23: return "" + (y == null ? x.pole(c[1], c[2], c[3]) : y.pole(c[1], c[2], c[3]));
                case 24: return "" + (y == null ? x.change(c[1], c[2]) : y.change(c[1], c[2]));
                default: return "" + (y == null ? x.settle(c[1]) : y.settle(c[1]));
            }
        } catch (RuntimeException e) {
            return "throws." + e.getClass().getSimpleName();
        }
    }

    /** Draws calls: mostly such as can be met, each argument now and then one that can't. */
    private static final class Draw {
        private final Random random;
        private final Model model;
        private final int classesWanted;
        private final int placesWanted;
        private final int changing;

        Draw(Random random, Model model) {
            this.random = random;
            this.model = model;
            int size = random.nextInt(20);
            classesWanted = size < 12 ? 3 + random.nextInt(4) : size < 19 ? 6 + random.nextInt(5) : 16;
            placesWanted = random.nextInt(4);
            changing = 20 + random.nextInt(60);
        }

        int[] next(int i) {
            if (i < 3 * classesWanted && random.nextInt(3) > 0) {
                return random.nextInt(3) > 0 ? kind() : random.nextBoolean() ? function() : method();
            }
            if (random.nextInt(100) < changing) {
                return changingCall();
            }
            return askingCall();
        }

        private int[] changingCall() {
            int which = random.nextInt(100);
            if (which < 3) {
                return model.size() < classesWanted || random.nextInt(10) == 0 ? kind() : method();
            }
            if (which < 5) {
                return function();
            }
            if (which < 40) {
                return method();
            }
            if (which < 58) {
                return new int[] {8, functionNumber(), methodNumber()};
            }
            return which < 62 ? new int[] {9} : new int[] {13, functionNumber(), callNumber()};
        }

        private int[] askingCall() {
            int f = functionNumber();
            switch (3 + random.nextInt(23)) {
                case 3: return new int[] {3, classNumber(), classNumber()};
                case 4: return new int[] {4, classNumber(), index(6)};
                case 5: return new int[] {5, classNumber(), classNumber(), index(3)};
                case 6: return new int[] {19, f, index(6)};
                case 10: return new int[] {10, odd(random.nextInt(7))};
                case 12: return new int[] {12, f, methodNumber(), odd(random.nextInt(5))};
                case 14: return new int[] {14, f, callNumber()};
                case 15: return new int[] {15, f, callNumber()};
                case 16: return new int[] {16, f, callNumber(), index(4)};
                case 17: return new int[] {17, f, callNumber()};
                case 18: return new int[] {18, f, callNumber()};
                case 20: return new int[] {20, f, index(4)};
                case 21: return new int[] {21, f, index(2)};
                case 22: return new int[] {22, f, methodNumber(), methodNumber()};
                case 23: return new int[] {23, f, odd(random.nextInt(3)), classNumber()};
                case 24: return new int[] {24, f, callNumber()};
                case 25: return new int[] {25, f};
                default: return new int[] {11, f, odd(random.nextInt(10))};
            }
        }

        private int[] kind() {
            if (model.size() >= classesWanted && classesWanted < 16 && random.nextInt(4) > 0) {
                return method();
            }
            int two = random.nextInt(5) < 3 ? classNumber() : -1;
            int three = two != -1 && random.nextInt(3) == 0 || random.nextInt(30) == 0 ? classNumber() : -1;
            return new int[] {2, classNumber(), two, three};
        }

        private int[] function() {
            int places = placesWanted > 0 && random.nextInt(4) > 0 ? placesWanted : 1 + random.nextInt(3);
            return new int[] {6, random.nextInt(20) == 0 ? random.nextInt(7) - 2 : places};
        }

        private int[] method() {
            int value = odd(random.nextInt(1999) - 999);
            if (random.nextInt(20) == 0) {
                value = random.nextBoolean() ? 999 + random.nextInt(2) : -999 - random.nextInt(2);
            }
            return new int[] {7, functionNumber(), callNumber(), odd(random.nextInt(4)), value};
        }

        private int odd(int usual) {
            return random.nextInt(40) == 0 ? ODD[random.nextInt(ODD.length)] : usual;
        }

        private int index(int most) {
            return odd(random.nextInt(most + 1) - 1);
        }

        private int classNumber() {
            return odd(random.nextInt(model.size() + (random.nextInt(20) == 0 ? 2 : 0)));
        }

        private int functionNumber() {
            return odd(random.nextInt(Math.max(1, model.functions.size() + (random.nextInt(20) == 0 ? 1 : 0))));
        }

        private int methodNumber() {
            return odd(random.nextInt(1 + random.nextInt(12)));
        }

        /** Mostly one of few numbers, so that calls are asked again. */
        private int callNumber() {
            int size = random.nextInt(3) == 0 ? model.size() : Math.min(model.size(), 4);
            int call = random.nextInt(size);
            int places = placesWanted > 0 ? placesWanted : 1 + random.nextInt(3);
            for (int place = 1; place < places; place++) {
                call += (random.nextInt(3) == 0 ? random.nextInt(model.size()) : random.nextInt(size)) << 4 * place;
            }
            return random.nextInt(60) == 0 ? random.nextInt(5000) - 100 : odd(call);
        }
    }

    /** A FUNCTION of the model. */
    private static final class Fun {
        final int places;
        final TreeMap<Integer, int[]> methods = new TreeMap<>();
        final List<int[]> kept = new ArrayList<>();

        Fun(int places) {
            this.places = places;
        }
    }

    /** The document's words, one after the other. */
    private static final class Model {
        final List<List<Integer>> parents = new ArrayList<>();
        final List<List<Integer>> lists = new ArrayList<>();
        final List<Fun> functions = new ArrayList<>();
        int rule = 0;
        int hits = 0;
        int misses = 0;

        Model() {
            parents.add(new ArrayList<>());
            lists.add(new ArrayList<>(List.of(0)));
        }

        int size() {
            return parents.size();
        }

        boolean there(int c) {
            return c >= 0 && c < size();
        }

        int kind(int one, int two, int three) {
            if (size() == 16 || two == -1 && three != -1) {
                return -1;
            }
            List<Integer> row = new ArrayList<>();
            for (int p : new int[] {one, two, three}) {
                if (p == -1 && !row.isEmpty()) {
                    continue;
                }
                if (!there(p) || row.contains(p)) {
                    return -1;
                }
                row.add(p);
            }
            List<Integer> list = merged(row);
            if (list == null) {
                return -2;
            }
            list.add(0, size());
            parents.add(row);
            lists.add(list);
            return size() - 1;
        }

        private List<Integer> merged(List<Integer> row) {
            List<List<Integer>> rows = new ArrayList<>();
            for (int p : row) {
                rows.add(new ArrayList<>(lists.get(p)));
            }
            rows.add(new ArrayList<>(row));
            List<Integer> result = new ArrayList<>();
            while (true) {
                rows.removeIf(List::isEmpty);
                if (rows.isEmpty()) {
                    return result;
                }
                Integer next = null;
                for (List<Integer> r : rows) {
                    Integer head = r.get(0);
                    if (rows.stream().allMatch(o -> o.lastIndexOf(head) <= 0)) {
                        next = head;
                        break;
                    }
                }
                if (next == null) {
                    return null;
                }
                Integer gone = next;
                result.add(gone);
                rows.forEach(r -> r.remove(gone));
            }
        }

        boolean is(int one, int other) {
            if (!there(one) || !there(other)) {
                return false;
            }
            return one == other || parents.get(one).stream().anyMatch(p -> is(p, other));
        }

        int pick(List<Integer> row, int k) {
            return k == -1 ? row.size() : k >= 0 && k < row.size() ? row.get(k) : -1;
        }

        int list(int c, int k) {
            return there(c) ? pick(lists.get(c), k) : -1;
        }

        int meet(int one, int other, int k) {
            if (!there(one) || !there(other)) {
                return -1;
            }
            List<Integer> both = new ArrayList<>();
            for (int c = 0; c < size(); c++) {
                if (is(c, one) && is(c, other)) {
                    both.add(c);
                }
            }
            List<Integer> meets = new ArrayList<>();
            for (int c : both) {
                if (both.stream().noneMatch(d -> d != c && is(c, d))) {
                    meets.add(c);
                }
            }
            return pick(meets, k);
        }

        int function(int places) {
            if (functions.size() == 4 || places < 1 || places > 3) {
                return -1;
            }
            functions.add(new Fun(places));
            return functions.size() - 1;
        }

        Fun fun(int f) {
            return f >= 0 && f < functions.size() ? functions.get(f) : null;
        }

        static int at(int call, int place) {
            return (call / (place == 0 ? 1 : place == 1 ? 16 : 256)) % 16;
        }

        boolean callThere(int f, int call) {
            return fun(f) != null && calls(fun(f)).contains(call);
        }

        /** All CALLS, rising. */
        private List<Integer> calls(Fun f) {
            if (callsSize == size() && callsPlaces == f.places) {
                return callsMade;
            }
            List<Integer> all = new ArrayList<>();
            for (int c = 0; c < (f.places > 2 ? size() : 1); c++) {
                for (int b = 0; b < (f.places > 1 ? size() : 1); b++) {
                    for (int a = 0; a < size(); a++) {
                        all.add(a + 16 * b + 256 * c);
                    }
                }
            }
            callsSize = size();
            callsPlaces = f.places;
            callsMade = all;
            return all;
        }

        private int callsSize = 0;
        private int callsPlaces = 0;
        private List<Integer> callsMade;

        /** Whether at each PLACE the CLASS of the one IS that of the other. */
        private boolean under(Fun f, int one, int other) {
            for (int place = 0; place < f.places; place++) {
                if (!lists.get(at(one, place)).contains(at(other, place))) {
                    return false;
                }
            }
            return true;
        }

        int method(int function, int of, int kind, int value) {
            if (!callThere(function, of) || kind < 0 || kind > 3 || value < -999 || value > 999) {
                return -1;
            }
            Fun f = fun(function);
            if (f.methods.size() == 12) {
                return -1;
            }
            if (f.methods.values().stream().anyMatch(m -> m[0] == of)) {
                return -2;
            }
            int number = 0;
            while (f.methods.containsKey(number)) {
                number++;
            }
            f.methods.put(number, new int[] {of, kind, value});
            f.kept.removeIf(k -> under(f, k[0], of));
            return number;
        }

        int drop(int function, int method) {
            Fun f = fun(function);
            if (f == null || !f.methods.containsKey(method)) {
                return -1;
            }
            int of = f.methods.remove(method)[0];
            f.kept.removeIf(k -> under(f, k[0], of));
            return f.methods.size();
        }

        int rule() {
            rule = rule == 0 ? 1 : 0;
            functions.forEach(f -> f.kept.clear());
            return rule;
        }

        int count(int what) {
            int[] told = {size(), functions.size(), rule, 0, hits, misses, 0};
            for (Fun f : functions) {
                told[3] += f.methods.size();
                told[6] += f.kept.size();
            }
            return what >= 0 && what < told.length ? told[what] : -1;
        }

        private List<Integer> applying(Fun f, int call) {
            List<Integer> found = new ArrayList<>();
            f.methods.forEach((number, m) -> {
                if (under(f, call, m[0])) {
                    found.add(number);
                }
            });
            return found;
        }

        private boolean atMost(Fun f, int one, int other) {
            return under(f, f.methods.get(one)[0], f.methods.get(other)[0]);
        }

        private boolean ahead(Fun f, int call, int one, int other) {
            for (int place = 0; place < f.places; place++) {
                List<Integer> list = lists.get(at(call, place));
                int a = list.indexOf(at(f.methods.get(one)[0], place));
                int b = list.indexOf(at(f.methods.get(other)[0], place));
                if (a != b) {
                    return a < b;
                }
            }
            throw new IllegalStateException("two methods for the same");
        }

        private int first(Fun f, int byRule, int call, List<Integer> some) {
            if (some.isEmpty()) {
                return -1;
            }
            for (int m : some) {
                if (some.stream().allMatch(o -> byRule == 0 ? atMost(f, m, o) : o == m || ahead(f, call, m, o))) {
                    return m;
                }
            }
            return -2;
        }

        private int answered(Fun f, int call) {
            return first(f, rule, call, applying(f, call));
        }

        private List<Integer> ambiguous(Fun f) {
            List<Integer> found = new ArrayList<>();
            for (int call : calls(f)) {
                if (first(f, 0, call, applying(f, call)) == -2) {
                    found.add(call);
                }
            }
            return found;
        }

        private List<Integer> greatest(Fun f, List<Integer> some) {
            List<Integer> found = new ArrayList<>();
            for (int call : some) {
                if (some.stream().noneMatch(o -> o != call && under(f, call, o))) {
                    found.add(call);
                }
            }
            return found;
        }

        private List<Integer> clashes(Fun f) {
            return greatest(f, ambiguous(f));
        }

        private List<Integer> gaps(Fun f) {
            List<Integer> found = new ArrayList<>();
            for (int call : calls(f)) {
                if (applying(f, call).isEmpty()) {
                    found.add(call);
                }
            }
            return greatest(f, found);
        }

        int of(int function, int what) {
            Fun f = fun(function);
            if (f == null) {
                return -1;
            }
            switch (what) {
                case 0: return f.places;
                case 1: return bits(new ArrayList<>(f.methods.keySet()));
                case 2: return calls(f).size();
                case 3: return (int) calls(f).stream().filter(c -> answered(f, c) == -1).count();
                case 4: return ambiguous(f).size();
                case 5: return clashes(f).size();
                case 6: return gaps(f).size();
                case 7: return table(f);
                case 8: return idle(f);
                case 9: return f.kept.size();
                default: return -1;
            }
        }

        private static int bits(List<Integer> some) {
            int sum = 0;
            for (int m : some) {
                sum += 1 << m;
            }
            return sum;
        }

        private int idle(Fun f) {
            List<Integer> left = new ArrayList<>(f.methods.keySet());
            for (int call : calls(f)) {
                left.remove((Integer) answered(f, call));
            }
            return bits(left);
        }

        private int table(Fun f) {
            TreeMap<Integer, Integer> answers = answersOf(f);
            int size = 1;
            for (int place = 0; place < f.places; place++) {
                int poles = 0;
                for (int c = 0; c < size(); c++) {
                    poles += poleOf(answers, place, c) == c ? 1 : 0;
                }
                size *= poles;
            }
            return size;
        }

        private TreeMap<Integer, Integer> answersOf(Fun f) {
            TreeMap<Integer, Integer> answers = new TreeMap<>();
            for (int call : calls(f)) {
                answers.put(call, answered(f, call));
            }
            return answers;
        }

        private int poleOf(TreeMap<Integer, Integer> answers, int place, int kind) {
            int unit = place == 0 ? 1 : place == 1 ? 16 : 256;
            for (int c = 0; c < kind; c++) {
                int other = c;
                if (answers.keySet().stream().filter(call -> at(call, place) == kind)
                    .allMatch(call -> answers.get(call).equals(answers.get(call + (other - kind) * unit)))) {
                    return c;
                }
            }
            return kind;
        }

        int at(int function, int method, int what) {
            Fun f = fun(function);
            if (f == null || !f.methods.containsKey(method) || what < 0 || what > 4) {
                throw new NoSuchElementException();
            }
            if (what < 3) {
                return f.methods.get(method)[what];
            }
            return (int) calls(f).stream()
                .filter(c -> what == 3 ? answered(f, c) == method : applying(f, c).contains(method)).count();
        }

        /** The KEPT answer is given, so that one that should have been dropped shows. */
        int call(int function, int call) {
            if (!callThere(function, call)) {
                return -3;
            }
            Fun f = fun(function);
            for (int[] k : f.kept) {
                if (k[0] == call) {
                    hits++;
                    f.kept.remove(k);
                    f.kept.add(k);
                    return k[1];
                }
            }
            misses++;
            f.kept.add(new int[] {call, answered(f, call)});
            if (f.kept.size() == 7) {
                f.kept.remove(0);
            }
            return answered(f, call);
        }

        int answer(int function, int call) {
            return callThere(function, call) ? answered(fun(function), call) : -3;
        }

        int applicable(int function, int call) {
            return callThere(function, call) ? bits(applying(fun(function), call)) : -1;
        }

        private List<Integer> chainOf(Fun f, int call) {
            List<Integer> others = applying(f, call);
            List<Integer> chain = new ArrayList<>();
            for (int m = first(f, rule, call, others); m >= 0; m = first(f, rule, call, others)) {
                chain.add(m);
                others.remove((Integer) m);
            }
            return chain;
        }

        int chain(int function, int call, int k) {
            return callThere(function, call) ? pick(chainOf(fun(function), call), k) : -1;
        }

        int broken(int function, int call) {
            if (!callThere(function, call)) {
                return -1;
            }
            return applying(fun(function), call).size() - chainOf(fun(function), call).size();
        }

        int work(int function, int call) {
            if (!callThere(function, call)) {
                throw new NoSuchElementException();
            }
            Fun f = fun(function);
            List<Integer> chain = chainOf(f, call);
            if (chain.isEmpty()) {
                throw new NoSuchElementException();
            }
            return worked(f, chain);
        }

        private int worked(Fun f, List<Integer> chain) {
            if (chain.isEmpty()) {
                return 0;
            }
            int[] m = f.methods.get(chain.get(0));
            int next = worked(f, chain.subList(1, chain.size()));
            return m[1] == 0 ? m[2] : m[1] == 1 ? m[2] + next : m[1] == 2 ? m[2] * next : m[2] > next ? m[2] : next;
        }

        int kept(int function, int k) {
            Fun f = fun(function);
            return f == null || k < 0 || k >= f.kept.size() ? -1 : f.kept.get(k)[0];
        }

        int clash(int function, int k) {
            return fun(function) == null || k < 0 ? -1 : pick(clashes(fun(function)), k);
        }

        int gap(int function, int k) {
            return fun(function) == null || k < 0 ? -1 : pick(gaps(fun(function)), k);
        }

        int fight(int function, int one, int other) {
            Fun f = fun(function);
            if (f == null || !f.methods.containsKey(one) || !f.methods.containsKey(other) || one == other) {
                return -1;
            }
            for (int call : calls(f)) {
                List<Integer> some = applying(f, call);
                if (some.contains(one) && some.contains(other) && !atMost(f, one, other) && !atMost(f, other, one)
                    && some.stream().noneMatch(m -> atMost(f, m, one) && atMost(f, m, other))) {
                    return call;
                }
            }
            return -1;
        }

        int pole(int function, int place, int kind) {
            Fun f = fun(function);
            if (f == null || place < 0 || place >= f.places || !there(kind)) {
                return -1;
            }
            return poleOf(answersOf(f), place, kind);
        }

        int change(int function, int of) {
            if (!callThere(function, of)) {
                return -1;
            }
            Fun f = fun(function);
            if (f.methods.values().stream().anyMatch(m -> m[0] == of)) {
                return -2;
            }
            TreeMap<Integer, Integer> before = answersOf(f);
            f.methods.put(99, new int[] {of, 0, 0});
            TreeMap<Integer, Integer> after = answersOf(f);
            f.methods.remove(99);
            return (int) before.keySet().stream().filter(c -> !before.get(c).equals(after.get(c))).count();
        }

        int settle(int function) {
            if (fun(function) == null) {
                return -1;
            }
            Fun f = new Fun(fun(function).places);
            f.methods.putAll(fun(function).methods);
            int more = 0;
            for (List<Integer> left = clashes(f); !left.isEmpty(); left = clashes(f)) {
                if (f.methods.size() == 12) {
                    return -2;
                }
                f.methods.put(100 + more, new int[] {left.get(0), 0, 0});
                more++;
            }
            return more;
        }
    }
}
