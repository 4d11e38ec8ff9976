import java.util.ArrayList;
import java.util.List;
import java.util.NoSuchElementException;
import java.util.TreeSet;
import java.util.regex.Matcher;
import java.util.regex.Pattern;

/**
 * A whole second LessonMaker for tests, with the document's calls in the document's order: each as its
 * promise says it, with lists and sets and without a look at speed or room. FAULTS are Grammar's, RUNS
 * are Model's.
 */
final class Plain {
    static final int NONE = -1;

    private String tape = "";
    private Model.Program now = new Model.Program();
    private Model.Program before = new Model.Program();
    private int fault = 0;
    private int where = NONE;
    private int trouble = 0;
    private Model.Ran latest = null;
    private final List<TreeSet<Integer>> told = new ArrayList<>();
    private List<Integer> picked = new ArrayList<>();
    private final List<Integer> chapters = new ArrayList<>();
    private int pairs;

    private int refuse(int why) {
        trouble = why;
        return NONE;
    }

    private int take(int answer) {
        trouble = 0;
        return answer;
    }

    private boolean isFunction(int f) {
        return f >= 0 && f < now.functions.size();
    }

    private boolean isLine(int l) {
        return l >= 0 && l < now.lines.size();
    }

    int feed(int a, int b, int c, int d, int e) {
        if (tape.length() + 20 > 600) {
            return refuse(3);
        }
        for (int number : new int[] {a, b, c, d, e}) {
            tape += (char) (number >>> 24);
            tape += (char) (number >>> 16 & 255);
            tape += (char) (number >>> 8 & 255);
            tape += (char) (number & 255);
        }
        return take(tape.length());
    }

    int program(int n) {
        if (n < 0 || n > tape.length()) {
            return refuse(2);
        }
        String text = tape.substring(0, n);
        tape = "";
        Grammar grammar = new Grammar(text);
        fault = grammar.fault;
        where = grammar.where;
        if (fault != 0) {
            return refuse(4);
        }
        before = now;
        now = new TextReader(text).read();
        latest = null;
        told.clear();
        picked.clear();
        chapters.clear();
        return take(now.functions.size());
    }

    int fault() {
        return fault;
    }

    int where() {
        return trouble == 4 ? where : NONE;
    }

    int function(int f, int what) {
        if (!isFunction(f) || what < 0 || what > 3) {
            return NONE;
        }
        Model.Function function = now.functions.get(f);
        int calls = 0;
        for (String name : function.calls) {
            calls |= 1 << now.indexOf(name);
        }
        return new int[] {function.places.length, function.firstLine, function.lineCount, calls}[what];
    }

    int name(int f, int i) {
        if (!isFunction(f) || i < 0 || i >= now.functions.get(f).name.length()) {
            throw new NoSuchElementException();
        }
        return now.functions.get(f).name.charAt(i);
    }

    int line(int l, int what) {
        if (!isLine(l) || what < 0 || what > 3) {
            return NONE;
        }
        Model.Line line = now.lines.get(l);
        return new int[] {line.kind, line.function, line.at, line.blocks}[what];
    }

    private Model.Ran ranOf(int f, int fuel, int rule, int... numbers) {
        List<String> names = new ArrayList<>();
        for (Model.Function function : now.functions) {
            names.add(function.name);
        }
        return new Model.Runner(now, names, fuel, rule).run(f, numbers);
    }

    int run(int f, int x, int y, int z, int fuel) {
        if (!isFunction(f)) {
            return refuse(1);
        }
        if (fuel < 1 || fuel > 2000) {
            return refuse(2);
        }
        latest = ranOf(f, fuel, -1, x, y, z);
        return take(latest.end);
    }

    int ran(int what) {
        if (latest == null) {
            return refuse(5);
        }
        if (what < 0 || what > 5) {
            return refuse(2);
        }
        return take(new int[] {latest.value, latest.steps, latest.said.size(), latest.trace.size(),
            latest.covered.size(), latest.deepest}[what]);
    }

    int said(int i) {
        if (latest == null || i < 0 || i >= latest.said.size() || i >= 60) {
            throw new NoSuchElementException();
        }
        return latest.said.get(i);
    }

    int trace(int i, int what) {
        if (latest == null || i < 0 || i >= latest.trace.size() || i >= 400 || what < 0 || what > 3) {
            throw new NoSuchElementException();
        }
        return latest.trace.get(i)[what];
    }

    int covered(int l) {
        if (latest == null || !isLine(l)) {
            return NONE;
        }
        return latest.covered.contains(l) ? 1 : 0;
    }

    int place(int k) {
        if (latest == null) {
            return refuse(5);
        }
        return k < 0 || k > 7 ? refuse(2) : take(latest.firstPlaces[k]);
    }

    int wrong(int rule, int f, int x, int y, int z) {
        if (!isFunction(f)) {
            return refuse(1);
        }
        return rule < 0 || rule > 3 ? refuse(2) : take(ranOf(f, 2000, rule, x, y, z).value);
    }

    int unlike(int f, int x, int y, int z) {
        if (!isFunction(f)) {
            return refuse(1);
        }
        Model.Ran truth = ranOf(f, 2000, -1, x, y, z);
        int others = 0;
        for (int rule = 0; rule < 4; rule++) {
            others += ranOf(f, 2000, rule, x, y, z).unlike(truth) ? 1 : 0;
        }
        return take(others);
    }

    int order() {
        if (now.functions.isEmpty()) {
            return -2;
        }
        findOrder();
        return pairs;
    }

    int chapter(int i) {
        if (!isFunction(i)) {
            return NONE;
        }
        findOrder();
        return chapters.get(i);
    }

    private boolean calls(int f, int g) {
        return now.functions.get(f).calls.contains(now.functions.get(g).name);
    }

    /** Orders are tried by their numbers, and left where they are no better than the best so far. */
    private void findOrder() {
        if (chapters.isEmpty()) {
            pairs = Integer.MAX_VALUE;
            lengthen(new ArrayList<>(), 0);
        }
    }

    private void lengthen(List<Integer> order, int ahead) {
        if (ahead >= pairs) {
            return;
        }
        if (order.size() == now.functions.size()) {
            chapters.clear();
            chapters.addAll(order);
            pairs = ahead;
            return;
        }
        for (int f = 0; f < now.functions.size(); f++) {
            if (!order.contains(f)) {
                order.add(f);
                int more = 0;
                for (int g = 0; g < now.functions.size(); g++) {
                    more += !order.contains(g) && calls(f, g) ? 1 : 0;
                }
                lengthen(order, ahead + more);
                order.remove(order.size() - 1);
            }
        }
    }

    int tell(int f, int x, int y, int z) {
        if (!isFunction(f)) {
            return refuse(1);
        }
        if (told.size() == 12) {
            return refuse(3);
        }
        told.add(ranOf(f, 2000, -1, x, y, z).covered);
        return take(told.size() - 1);
    }

    private TreeSet<Integer> linesOf(List<Integer> runs) {
        TreeSet<Integer> lines = new TreeSet<>();
        for (int run : runs) {
            lines.addAll(told.get(run));
        }
        return lines;
    }

    private List<Integer> allRuns() {
        List<Integer> runs = new ArrayList<>();
        for (int r = 0; r < told.size(); r++) {
            runs.add(r);
        }
        return runs;
    }

    int shown() {
        return linesOf(allRuns()).size();
    }

    int fewest() {
        for (int size = 0; size <= told.size(); size++) {
            List<Integer> runs = firstOf(size, new ArrayList<>(), linesOf(allRuns()));
            if (runs != null) {
                picked = runs;
                return size;
            }
        }
        throw new IllegalStateException("all RUNS show all");
    }

    private List<Integer> firstOf(int size, List<Integer> runs, TreeSet<Integer> shown) {
        if (runs.size() == size) {
            return linesOf(runs).equals(shown) ? runs : null;
        }
        for (int r = runs.isEmpty() ? 0 : runs.get(runs.size() - 1) + 1; r < told.size(); r++) {
            List<Integer> longer = new ArrayList<>(runs);
            longer.add(r);
            List<Integer> found = firstOf(size, longer, shown);
            if (found != null) {
                return found;
            }
        }
        return null;
    }

    int picked(int i) {
        return i >= 0 && i < picked.size() ? picked.get(i) : NONE;
    }

    int anew(int f) {
        if (!isFunction(f)) {
            return NONE;
        }
        if (isOther(f)) {
            return 2;
        }
        TreeSet<Integer> reached = new TreeSet<>();
        reach(f, reached);
        for (int g : reached) {
            if (isOther(g)) {
                return 1;
            }
        }
        return 0;
    }

    private boolean isOther(int f) {
        Model.Function function = now.functions.get(f);
        int old = before.indexOf(function.name);
        return old < 0 || !before.functions.get(old).tokens.equals(function.tokens);
    }

    private void reach(int f, TreeSet<Integer> reached) {
        for (int g = 0; g < now.functions.size(); g++) {
            if (calls(f, g) && reached.add(g)) {
                reach(g, reached);
            }
        }
    }

    int gone() {
        int gone = 0;
        for (Model.Function old : before.functions) {
            gone += now.indexOf(old.name) < 0 ? 1 : 0;
        }
        return gone;
    }

    int count(int what) {
        return what < 0 || what > 3 ? NONE
                : new int[] {now.functions.size(), now.lines.size(), told.size(), tape.length()}[what];
    }

    int trouble() {
        return trouble;
    }

    /** Makes Model's trees of a text that has no FAULT. */
    private static final class TextReader {
        private final List<String> tokens = new ArrayList<>();
        private final List<Integer> places = new ArrayList<>();
        private final List<String> names = new ArrayList<>();
        private final Model.Program program = new Model.Program();
        private Model.Function current;
        private int next = 0;

        TextReader(String text) {
            Matcher matcher = Pattern.compile("[a-z]+|[0-9]+|[^ \n]").matcher(text);
            while (matcher.find()) {
                if (!tokens.isEmpty() && tokens.get(tokens.size() - 1).equals("def")) {
                    names.add(matcher.group());
                }
                tokens.add(matcher.group());
                places.add(matcher.start());
            }
            program.text = text;
        }

        Model.Program read() {
            while (next < tokens.size()) {
                int first = next;
                current = new Model.Function();
                current.firstLine = program.lines.size();
                next++;
                current.name = token();
                next++;
                List<Integer> letters = new ArrayList<>();
                while (!token().equals("{")) {
                    if (token().matches("[a-h]")) {
                        letters.add(token().charAt(0) - 'a');
                    }
                    next++;
                }
                current.places = new int[letters.size()];
                for (int i = 0; i < letters.size(); i++) {
                    current.places[i] = letters.get(i);
                }
                current.body = block(1);
                current.lineCount = program.lines.size() - current.firstLine;
                current.tokens = String.join(" ", tokens.subList(first, next));
                program.functions.add(current);
            }
            return program;
        }

        private String token() {
            return next < tokens.size() ? tokens.get(next) : "";
        }

        /** The sign or word that stands at next is gone past, and told. */
        private String past() {
            next++;
            return tokens.get(next - 1);
        }

        private List<Model.Line> block(int depth) {
            List<Model.Line> lines = new ArrayList<>();
            do {
                next++;
                lines.add(line(depth));
            } while (token().equals(";"));
            next++;
            return lines;
        }

        private Model.Line line(int depth) {
            Model.Line line = new Model.Line();
            line.number = program.lines.size();
            line.at = places.get(next);
            line.blocks = depth;
            line.function = program.functions.size();
            program.lines.add(line);
            String word = past();
            line.kind = Math.max(0, List.of("", "say", "return", "if", "while").indexOf(word));
            if (line.kind == 0) {
                line.place = word.charAt(0) - 'a';
                next++;
            }
            line.left = sum();
            if (line.kind >= 3) {
                line.sign = past().charAt(0);
                line.right = sum();
                line.block = block(depth + 1);
                if (token().equals("else")) {
                    next++;
                    line.otherwise = block(depth + 1);
                }
            }
            return line;
        }

        private Model.Sum sum() {
            Model.Sum sum = new Model.Sum();
            sum.minus.add(false);
            sum.terms.add(term());
            while (token().equals("+") || token().equals("-")) {
                sum.minus.add(past().equals("-"));
                sum.terms.add(term());
            }
            return sum;
        }

        private Model.Term term() {
            Model.Term term = new Model.Term();
            term.parts.add(part());
            while (token().equals("*")) {
                next++;
                term.parts.add(part());
            }
            return term;
        }

        private Model.Part part() {
            Model.Part part = new Model.Part();
            String word = past();
            if (word.matches("[0-9]+")) {
                part.number = Integer.parseInt(word);
            } else if (word.matches("[a-h]")) {
                part.kind = 1;
                part.number = word.charAt(0) - 'a';
            } else {
                part.kind = word.equals("(") ? 2 : 3;
                if (part.kind == 3) {
                    part.number = names.indexOf(word);
                    current.calls.add(word);
                    next++;
                }
                while (!token().equals(")")) {
                    part.sums.add(sum());
                    if (token().equals(",")) {
                        next++;
                    }
                }
                next++;
            }
            return part;
        }
    }
}
