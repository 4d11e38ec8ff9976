import java.util.ArrayList;
import java.util.Collections;
import java.util.List;
import java.util.Random;
import java.util.TreeSet;

/** Promises 3 and 6 to 24, held against Model over programs made by chance from fixed seeds. */
final class ModelTest {
    private static final int SEEDS = 1500;

    private final Model.Maker maker;
    private final Random random;
    private final LessonMaker lessons = new LessonMaker();
    private final String title;
    private Model.Program now;
    private Model.Program before;
    private int calls;

    private ModelTest(long seed) {
        maker = new Model.Maker(seed);
        random = new Random(-seed);
        title = "seed " + seed + ": ";
    }

    public static void main(String[] args) {
        for (long seed = 1; seed <= SEEDS; seed++) {
            new ModelTest(seed).tryAll();
        }
        Check.end();
    }

    private void due(String what, long got, long want) {
        calls++;
        Check.due(title + what, got, want);
    }

    private void tryAll() {
        maker.pickNames(1 + random.nextInt(random.nextInt(10) + 1));
        List<Model.Function> functions = functions(null);
        Model.Program first = write(functions);
        turnTo(first);
        look();
        runs();
        order();
        told();
        List<Model.Function> grown = functions(functions);
        Model.Program second = write(grown);
        turnTo(second);
        look();
        growth();
    }

    /** New FUNCTIONS, or those of before with some of them made anew and some under another NAME. */
    private List<Model.Function> functions(List<Model.Function> old) {
        List<Model.Function> all = new ArrayList<>();
        int size = 1 + random.nextInt(maker.names.size() < 3 ? 4 : 2);
        for (int f = 0; f < maker.names.size(); f++) {
            if (old != null && random.nextInt(6) == 0) {
                maker.names.set(f, "new" + (char) ('a' + f));
            }
            boolean keep = old != null && random.nextInt(4) != 0;
            all.add(keep ? old.get(f).named(maker.names.get(f)) : maker.function(f, size));
        }
        return all;
    }

    private Model.Program write(List<Model.Function> functions) {
        for (int turn = 0; turn < 1000; turn++) {
            List<Model.Function> inSomeOrder = new ArrayList<>(functions);
            Collections.shuffle(inSomeOrder, random);
            Model.Program program = new Model.Writer(maker.names, random).write(inSomeOrder);
            if (program.text.length() <= Model.ROOM && program.lines.size() <= 60) {
                return program;
            }
            int f = random.nextInt(functions.size());
            Model.Function shorter = maker.function(f, 1);
            shorter.places = functions.get(f).places;
            functions.set(f, shorter);
        }
        throw new IllegalStateException("no program is short enough");
    }

    private void turnTo(Model.Program program) {
        before = now;
        now = program;
        due("program() of " + program.text, Check.program(lessons, program.text),
                program.functions.size());
    }

    private void look() {
        due("count(1)", lessons.count(1), now.lines.size());
        for (int f = 0; f < now.functions.size(); f++) {
            Model.Function function = now.functions.get(f);
            int bits = 0;
            for (String name : function.calls) {
                bits |= 1 << now.indexOf(name);
            }
            int[] want = {function.places.length, function.firstLine, function.lineCount, bits};
            for (int what = 0; what < 4; what++) {
                due("function(" + f + ", " + what + ")", lessons.function(f, what), want[what]);
            }
            due("name", lessons.name(f, 1), function.name.charAt(1));
        }
        for (int l = 0; l < now.lines.size(); l++) {
            Model.Line line = now.lines.get(l);
            int[] want = {line.kind, line.function, line.at, line.blocks};
            for (int what = 0; what < 4; what++) {
                due("line(" + l + ", " + what + ")", lessons.line(l, what), want[what]);
            }
        }
    }

    private int number() {
        return random.nextInt(8) == 0 ? random.nextInt() : random.nextInt(12) - 3;
    }

    private Model.Ran truth(int f, int fuel, int rule, int... numbers) {
        return new Model.Runner(now, maker.names, fuel, rule).run(f, numbers);
    }

    private void runs() {
        for (int turn = 0; turn < 6; turn++) {
            int f = random.nextInt(now.functions.size());
            int x = number();
            int y = number();
            int z = number();
            int fuel = random.nextBoolean() ? 2000 : 1 + random.nextInt(60);
            Model.Ran ran = truth(f, fuel, -1, x, y, z);
            String what = "run(" + f + ", " + x + ", " + y + ", " + z + ", " + fuel + ") of " + now.text;
            due(what, lessons.run(f, x, y, z, fuel), ran.end);
            Model.Ran whole = truth(f, 2000, -1, x, y, z);
            int unlike = 0;
            for (int rule = 0; rule < 4; rule++) {
                Model.Ran other = truth(f, 2000, rule, x, y, z);
                due("wrong " + rule + " of " + what, lessons.wrong(rule, f, x, y, z), other.value);
                unlike += other.unlike(whole) ? 1 : 0;
            }
            due("unlike of " + what, lessons.unlike(f, x, y, z), unlike);
            lookAtRun(what, ran);
        }
    }

    private void lookAtRun(String what, Model.Ran ran) {
        int[] want = {ran.value, ran.steps, ran.said.size(), ran.trace.size(), ran.covered.size(),
            ran.deepest};
        for (int i = 0; i < want.length; i++) {
            due("ran(" + i + ") of " + what, lessons.ran(i), want[i]);
        }
        for (int i = 0; i < Math.min(60, ran.said.size()); i++) {
            due("said(" + i + ") of " + what, lessons.said(i), ran.said.get(i));
        }
        int end = Math.min(60, ran.said.size());
        Check.dueNoSuch("said(" + end + ") of " + what, () -> lessons.said(end));
        for (int i = 0; i < Math.min(400, ran.trace.size()); i++) {
            for (int part = 0; part < 4; part++) {
                due("trace(" + i + ", " + part + ") of " + what, lessons.trace(i, part),
                        ran.trace.get(i)[part]);
            }
        }
        int last = Math.min(400, ran.trace.size());
        Check.dueNoSuch("trace(" + last + ", 0) of " + what, () -> lessons.trace(last, 0));
        for (int l = 0; l < now.lines.size(); l++) {
            due("covered(" + l + ") of " + what, lessons.covered(l), ran.covered.contains(l) ? 1 : 0);
        }
        for (int k = 0; k < 8; k++) {
            due("place(" + k + ") of " + what, lessons.place(k), ran.firstPlaces[k]);
        }
    }

    private int ahead(List<Integer> order) {
        int pairs = 0;
        for (int i = 0; i < order.size(); i++) {
            for (int j = i + 1; j < order.size(); j++) {
                String behind = now.functions.get(order.get(j)).name;
                pairs += now.functions.get(order.get(i)).calls.contains(behind) ? 1 : 0;
            }
        }
        return pairs;
    }

    private void order() {
        if (now.functions.size() > 7) {
            return;
        }
        List<Integer> best = null;
        List<Integer> order = new ArrayList<>();
        for (int f = 0; f < now.functions.size(); f++) {
            order.add(f);
        }
        do {
            if (best == null || ahead(order) < ahead(best)) {
                best = new ArrayList<>(order);
            }
        } while (turnToNext(order));
        due("order() of " + now.text, lessons.order(), ahead(best));
        for (int i = 0; i < best.size(); i++) {
            due("chapter(" + i + ") of " + now.text, lessons.chapter(i), best.get(i));
        }
    }

    /** The next order by numbers, if there is one. */
    private static boolean turnToNext(List<Integer> order) {
        int i = order.size() - 2;
        while (i >= 0 && order.get(i) > order.get(i + 1)) {
            i--;
        }
        if (i < 0) {
            return false;
        }
        int j = order.size() - 1;
        while (order.get(j) < order.get(i)) {
            j--;
        }
        Collections.swap(order, i, j);
        Collections.reverse(order.subList(i + 1, order.size()));
        return true;
    }

    private void told() {
        List<TreeSet<Integer>> covers = new ArrayList<>();
        TreeSet<Integer> shown = new TreeSet<>();
        int n = random.nextInt(13);
        for (int r = 0; r < n; r++) {
            int f = random.nextInt(now.functions.size());
            int x = number();
            int y = number();
            int z = number();
            due("tell", lessons.tell(f, x, y, z), r);
            covers.add(truth(f, 2000, -1, x, y, z).covered);
            shown.addAll(covers.get(r));
        }
        due("shown()", lessons.shown(), shown.size());
        List<Integer> fewest = null;
        for (int size = 0; fewest == null; size++) {
            fewest = firstShowing(covers, shown, size, 0, new ArrayList<>());
        }
        due("fewest()", lessons.fewest(), fewest.size());
        for (int i = 0; i < fewest.size(); i++) {
            due("picked(" + i + ")", lessons.picked(i), fewest.get(i));
        }
        due("picked beyond", lessons.picked(fewest.size()), -1);
    }

    private static List<Integer> firstShowing(List<TreeSet<Integer>> covers, TreeSet<Integer> shown,
            int size, int from, List<Integer> runs) {
        if (runs.size() == size) {
            TreeSet<Integer> lines = new TreeSet<>();
            for (int r : runs) {
                lines.addAll(covers.get(r));
            }
            return lines.equals(shown) ? new ArrayList<>(runs) : null;
        }
        for (int r = from; r < covers.size(); r++) {
            runs.add(r);
            List<Integer> found = firstShowing(covers, shown, size, r + 1, runs);
            runs.remove(runs.size() - 1);
            if (found != null) {
                return found;
            }
        }
        return null;
    }

    private boolean isNew(Model.Function function) {
        int old = before.indexOf(function.name);
        return old < 0 || !before.functions.get(old).tokens.equals(function.tokens);
    }

    private boolean reachesNew(Model.Function function, TreeSet<String> seen) {
        for (String name : function.calls) {
            Model.Function called = now.functions.get(now.indexOf(name));
            if (isNew(called) || seen.add(name) && reachesNew(called, seen)) {
                return true;
            }
        }
        return false;
    }

    private void growth() {
        int gone = 0;
        for (Model.Function old : before.functions) {
            gone += now.indexOf(old.name) < 0 ? 1 : 0;
        }
        due("gone()", lessons.gone(), gone);
        for (int f = 0; f < now.functions.size(); f++) {
            Model.Function function = now.functions.get(f);
            int want = isNew(function) ? 2 : reachesNew(function, new TreeSet<>()) ? 1 : 0;
            due("anew(" + f + ") of " + now.text + " beside " + before.text, lessons.anew(f), want);
        }
    }
}
