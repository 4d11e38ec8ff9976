import java.util.ArrayList;
import java.util.Arrays;
import java.util.List;
import java.util.Random;
import java.util.TreeSet;

/**
 * A second, plainer LessonMaker for tests: it makes programs by chance as trees, writes their texts,
 * and runs the trees themselves, so that it shares no reading and no running with the class.
 */
final class Model {
    static final int ROOM = 600;

    private Model() {
    }

    static final class Part {
        int kind; // 0 WHOLE, 1 PLACE, 2 ( SUM ), 3 call
        int number;
        List<Sum> sums = new ArrayList<>();
    }

    static final class Term {
        List<Part> parts = new ArrayList<>();
    }

    static final class Sum {
        List<Term> terms = new ArrayList<>();
        List<Boolean> minus = new ArrayList<>();
    }

    static final class Line {
        int kind;
        int place;
        char sign;
        Sum left;
        Sum right;
        List<Line> block;
        List<Line> otherwise;
        // where it stands in the latest text
        int number;
        int at;
        int blocks;
        int function;
    }

    static final class Function {
        String name;
        int[] places;
        List<Line> body;
        String tokens;
        TreeSet<String> calls = new TreeSet<>();
        int lineCount;
        int firstLine;

        Function named(String other) {
            Function copy = new Function();
            copy.name = other;
            copy.places = places;
            copy.body = body;
            return copy;
        }
    }

    /** How a RUN ended, and what came of it. */
    static final class Ran {
        int end;
        int value;
        int steps;
        int deepest;
        int[] firstPlaces;
        List<Integer> said = new ArrayList<>();
        List<int[]> trace = new ArrayList<>();
        TreeSet<Integer> covered = new TreeSet<>();

        boolean unlike(Ran other) {
            if (end != other.end || value != other.value || said.size() != other.said.size()) {
                return true;
            }
            int kept = Math.min(60, said.size());
            return !said.subList(0, kept).equals(other.said.subList(0, kept));
        }
    }

    static final class Ended extends RuntimeException {
        private static final long serialVersionUID = 1L;
        final int end;

        Ended(int end) {
            this.end = end;
        }
    }

    static final class Back extends RuntimeException {
        private static final long serialVersionUID = 1L;
        final int value;

        Back(int value) {
            this.value = value;
        }
    }

    static final class Program {
        List<Function> functions = new ArrayList<>();
        List<Line> lines = new ArrayList<>();
        String text;

        int indexOf(String name) {
            for (int f = 0; f < functions.size(); f++) {
                if (functions.get(f).name.equals(name)) {
                    return f;
                }
            }
            return -1;
        }
    }

    /** Makes programs by chance; calls hold FUNCTIONS' names in names. */
    static final class Maker {
        final Random random;
        final List<String> names = new ArrayList<>();
        final List<Integer> counts = new ArrayList<>();

        Maker(long seed) {
            random = new Random(seed);
        }

        void pickNames(int n) {
            String[] words = {"fa", "fb", "fab", "saying", "iff", "abcdefgh", "zz", "wh", "elses", "de"};
            names.clear();
            counts.clear();
            for (int i = 0; i < n; i++) {
                names.add(words[i]);
                counts.add(random.nextInt(4));
            }
        }

        Function function(int f, int size) {
            Function function = new Function();
            function.name = names.get(f);
            List<Integer> free = new ArrayList<>(Arrays.asList(0, 1, 2, 3, 4, 5, 6, 7));
            function.places = new int[counts.get(f)];
            for (int i = 0; i < function.places.length; i++) {
                function.places[i] = free.remove(random.nextInt(random.nextInt(free.size()) + 1));
            }
            function.body = block(size, 1);
            return function;
        }

        List<Line> block(int size, int depth) {
            List<Line> lines = new ArrayList<>();
            int n = 1 + random.nextInt(size);
            for (int i = 0; i < n; i++) {
                lines.add(line(Math.max(1, size - 1), depth));
            }
            return lines;
        }

        Line line(int size, int depth) {
            Line line = new Line();
            int chance = random.nextInt(12);
            line.kind = chance < 4 ? 0 : chance < 6 ? 1 : chance < 7 ? 2 : chance < 9 ? 3 : 4;
            if (depth >= 6 && line.kind >= 3) {
                line.kind = 0;
            }
            line.left = sum(0);
            if (line.kind == 0) {
                line.place = random.nextInt(random.nextInt(8) + 1);
            }
            if (line.kind >= 3) {
                line.sign = "<>=<".charAt(random.nextInt(4));
                line.right = sum(0);
                line.block = block(size, depth + 1);
                if (line.kind == 3 && random.nextBoolean()) {
                    line.otherwise = block(size, depth + 1);
                }
            }
            return line;
        }

        Sum sum(int depth) {
            Sum sum = new Sum();
            int n = 1 + (random.nextInt(3) == 0 ? random.nextInt(3) : 0);
            for (int i = 0; i < n; i++) {
                Term term = new Term();
                int m = 1 + (random.nextInt(4) == 0 ? random.nextInt(3) : 0);
                for (int j = 0; j < m; j++) {
                    term.parts.add(part(depth));
                }
                sum.terms.add(term);
                sum.minus.add(random.nextBoolean());
            }
            return sum;
        }

        Part part(int depth) {
            Part part = new Part();
            int chance = random.nextInt(16);
            if (chance >= 13 && depth < 6) {
                part.kind = chance == 13 ? 2 : 3;
            } else {
                part.kind = chance < 6 ? 0 : 1;
            }
            if (part.kind == 0) {
                int[] most = {4, 10, 100, 100000};
                part.number = random.nextInt(most[random.nextInt(random.nextInt(4) + 1)]);
            } else if (part.kind == 1) {
                part.number = random.nextInt(random.nextInt(8) + 1);
            } else if (part.kind == 2) {
                part.sums.add(sum(depth + 1));
            } else {
                part.number = random.nextInt(names.size());
                for (int i = 0; i < counts.get(part.number); i++) {
                    part.sums.add(sum(depth + 1));
                }
            }
            return part;
        }
    }

    /** Writes a program's text, with the place of every LINE. */
    static final class Writer {
        final List<String> tokens = new ArrayList<>();
        final List<Line> starts = new ArrayList<>();
        final List<Integer> startTokens = new ArrayList<>();
        final List<String> names;
        final Random random;
        Function current;

        Writer(List<String> names, Random random) {
            this.names = names;
            this.random = random;
        }

        Program write(List<Function> functions) {
            Program program = new Program();
            program.functions.addAll(functions);
            for (int f = 0; f < functions.size(); f++) {
                Function function = functions.get(f);
                int first = tokens.size();
                current = function;
                function.calls.clear();
                function.firstLine = starts.size();
                put("def");
                put(function.name);
                put("(");
                for (int i = 0; i < function.places.length; i++) {
                    if (i > 0) {
                        put(",");
                    }
                    putPlace(function.places[i]);
                }
                put(")");
                putBlock(function.body, 1, f);
                function.lineCount = starts.size() - function.firstLine;
                function.tokens = String.join(" ", tokens.subList(first, tokens.size()));
            }
            join(program);
            return program;
        }

        void join(Program program) {
            StringBuilder text = new StringBuilder();
            int line = 0;
            for (int t = 0; t < tokens.size(); t++) {
                String token = tokens.get(t);
                if (t > 0 && (sticks(text, token) || random.nextInt(12) == 0)) {
                    text.append(random.nextInt(5) == 0 ? '\n' : ' ');
                }
                if (line < starts.size() && startTokens.get(line) == t) {
                    starts.get(line).at = text.length();
                    line++;
                }
                text.append(token);
            }
            program.text = text.toString();
            program.lines.addAll(starts);
        }

        static boolean sticks(StringBuilder text, String token) {
            char last = text.charAt(text.length() - 1);
            char next = token.charAt(0);
            return Character.isLetter(last) && Character.isLetter(next)
                    || Character.isDigit(last) && Character.isDigit(next);
        }

        void put(String token) {
            tokens.add(token);
        }

        void putPlace(int k) {
            put(String.valueOf((char) ('a' + k)));
        }

        void putBlock(List<Line> lines, int depth, int f) {
            put("{");
            for (int i = 0; i < lines.size(); i++) {
                if (i > 0) {
                    put(";");
                }
                putLine(lines.get(i), depth, f);
            }
            put("}");
        }

        void putLine(Line line, int depth, int f) {
            line.number = starts.size();
            line.blocks = depth;
            line.function = f;
            starts.add(line);
            startTokens.add(tokens.size());
            String[] words = {"", "say", "return", "if", "while"};
            if (line.kind == 0) {
                putPlace(line.place);
                put("=");
            } else {
                put(words[line.kind]);
            }
            putSum(line.left);
            if (line.kind >= 3) {
                put(String.valueOf(line.sign));
                putSum(line.right);
                putBlock(line.block, depth + 1, f);
                if (line.otherwise != null) {
                    put("else");
                    putBlock(line.otherwise, depth + 1, f);
                }
            }
        }

        void putSum(Sum sum) {
            for (int i = 0; i < sum.terms.size(); i++) {
                if (i > 0) {
                    put(sum.minus.get(i) ? "-" : "+");
                }
                List<Part> parts = sum.terms.get(i).parts;
                for (int j = 0; j < parts.size(); j++) {
                    if (j > 0) {
                        put("*");
                    }
                    putPart(parts.get(j));
                }
            }
        }

        void putPart(Part part) {
            if (part.kind == 0) {
                put(String.valueOf(part.number));
            } else if (part.kind == 1) {
                putPlace(part.number);
            } else {
                if (part.kind == 3) {
                    put(names.get(part.number));
                    current.calls.add(names.get(part.number));
                }
                put("(");
                for (int i = 0; i < part.sums.size(); i++) {
                    if (i > 0) {
                        put(",");
                    }
                    putSum(part.sums.get(i));
                }
                put(")");
            }
        }
    }

    /** Runs the trees. */
    static final class Runner {
        final Program program;
        final List<String> names;
        final int fuel;
        final int rule;
        final Ran ran = new Ran();
        int depth;

        Runner(Program program, List<String> names, int fuel, int rule) {
            this.program = program;
            this.names = names;
            this.fuel = fuel;
            this.rule = rule;
        }

        Ran run(int f, int... numbers) {
            try {
                ran.value = call(program.functions.get(f), numbers);
            } catch (Ended e) {
                ran.end = e.end;
            }
            return ran;
        }

        int call(Function function, int[] numbers) {
            if (depth == 8) {
                throw new Ended(2);
            }
            depth++;
            ran.deepest = Math.max(ran.deepest, depth);
            int[] places = new int[8];
            if (ran.firstPlaces == null) {
                ran.firstPlaces = places;
            }
            for (int i = 0; i < function.places.length; i++) {
                places[function.places[i]] = numbers[i];
            }
            int value = 0;
            try {
                block(function.body, places);
            } catch (Back e) {
                value = e.value;
            }
            depth--;
            return value;
        }

        void step() {
            if (ran.steps == fuel) {
                throw new Ended(1);
            }
            ran.steps++;
        }

        void block(List<Line> lines, int[] places) {
            for (Line line : lines) {
                step();
                ran.covered.add(line.number);
                obey(line, places);
            }
        }

        void obey(Line line, int[] places) {
            if (line.kind == 4) {
                boolean more = test(line, places);
                while (more) {
                    block(line.block, places);
                    if (rule == 2) {
                        return;
                    }
                    step();
                    more = test(line, places);
                }
            } else if (line.kind == 3) {
                if (test(line, places)) {
                    block(line.block, places);
                } else if (line.otherwise != null) {
                    block(line.otherwise, places);
                }
            } else {
                int value = sum(line.left, places);
                if (line.kind == 0) {
                    note(line, line.place, places[line.place], value);
                    places[line.place] = value;
                } else {
                    note(line, -1, 0, value);
                    if (line.kind == 2) {
                        throw new Back(value);
                    }
                    ran.said.add(value);
                }
            }
        }

        void note(Line line, int place, int ahead, int then) {
            ran.trace.add(new int[] {line.number, place, ahead, then});
        }

        boolean test(Line line, int[] places) {
            long left = sum(line.left, places);
            long right = sum(line.right, places);
            boolean holds = line.sign == '=' ? left == right
                    : line.sign == '>' ? left > right
                    : rule == 0 ? left <= right : left < right;
            note(line, -1, 0, holds ? 1 : 0);
            return holds;
        }

        int sum(Sum sum, int[] places) {
            int value = term(sum.terms.get(0), places);
            for (int i = 1; i < sum.terms.size(); i++) {
                int other = term(sum.terms.get(i), places);
                if (!sum.minus.get(i)) {
                    value = value + other;
                } else {
                    value = rule == 1 ? other - value : value - other;
                }
            }
            return value;
        }

        int term(Term term, int[] places) {
            int value = part(term.parts.get(0), places);
            for (int i = 1; i < term.parts.size(); i++) {
                int other = part(term.parts.get(i), places);
                value = rule == 3 ? value + other : value * other;
            }
            return value;
        }

        int part(Part part, int[] places) {
            if (part.kind == 0) {
                return part.number;
            }
            if (part.kind == 1) {
                return places[part.number];
            }
            if (part.kind == 2) {
                return sum(part.sums.get(0), places);
            }
            int[] numbers = new int[part.sums.size()];
            for (int i = 0; i < numbers.length; i++) {
                numbers[i] = sum(part.sums.get(i), places);
            }
            return call(program.functions.get(program.indexOf(names.get(part.number))), numbers);
        }
    }
}
