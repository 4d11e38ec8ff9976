/** Promises 6 (function), 7 (name) and 8 (line). */
final class PartsTest {
    private static final String TEXT = "def main(c, a) {\n a = twice(c);\n if a > 3 { say a; while c < a {"
            + " c = c + 1 } } else { return main(1, 2) } }\n def twice(h) { return h * 2 }"
            + " def noplaces() { say twice(twice(1)); say 2 }";

    public static void main(String[] args) {
        functions();
        names();
        lines();
        wrongNumbers();
        Check.end();
    }

    private static void dueRow(LessonMaker maker, int f, int... want) {
        for (int what = 0; what < want.length; what++) {
            Check.due("function(" + f + ", " + what + ")", maker.function(f, what), want[what]);
        }
    }

    private static void functions() {
        LessonMaker maker = Check.withProgram(TEXT);
        dueRow(maker, 0, 2, 0, 6, 3);
        dueRow(maker, 1, 1, 6, 1, 0);
        dueRow(maker, 2, 0, 7, 2, 2);
    }

    private static void names() {
        LessonMaker maker = Check.withProgram(TEXT);
        String[] names = {"main", "twice", "noplaces"};
        for (int f = 0; f < names.length; f++) {
            int number = f;
            int length = names[f].length();
            for (int i = 0; i < length; i++) {
                Check.due("name(" + f + ", " + i + ")", maker.name(f, i), names[f].charAt(i));
            }
            Check.dueNoSuch("name(" + f + ", " + length + ")", () -> maker.name(number, length));
            Check.dueNoSuch("name(" + f + ", -1)", () -> maker.name(number, -1));
            Check.dueNoSuch("name(" + f + ", MAX)", () -> maker.name(number, Integer.MAX_VALUE));
        }
        Check.dueNoSuch("name(3, 0)", () -> maker.name(3, 0));
        Check.dueNoSuch("name(-1, 0)", () -> maker.name(-1, 0));
    }

    private static void lines() {
        LessonMaker maker = Check.withProgram(TEXT);
        int[] kinds = {0, 3, 1, 4, 0, 2, 2, 1, 1};
        int[] functions = {0, 0, 0, 0, 0, 0, 1, 2, 2};
        String[] firsts = {"a = twice", "if a", "say a", "while c", "c = c", "return main", "return h",
            "say twice", "say 2"};
        int[] blocks = {1, 1, 2, 2, 3, 2, 1, 1, 1};
        for (int l = 0; l < kinds.length; l++) {
            Check.due("line(" + l + ", 0)", maker.line(l, 0), kinds[l]);
            Check.due("line(" + l + ", 1)", maker.line(l, 1), functions[l]);
            Check.due("line(" + l + ", 2)", maker.line(l, 2), TEXT.indexOf(firsts[l]));
            Check.due("line(" + l + ", 3)", maker.line(l, 3), blocks[l]);
        }
    }

    private static void wrongNumbers() {
        LessonMaker maker = Check.withProgram(TEXT);
        maker.run(9, 0, 0, 0, 1);
        int[] bad = {-1, 9, 10, 60, Integer.MIN_VALUE, Integer.MAX_VALUE};
        for (int n : bad) {
            Check.due("function(" + n + ", 0)", maker.function(n, 0), -1);
            Check.due("function(0, " + n + ")", maker.function(0, n), -1);
            Check.due("line(" + n + ", 0)", maker.line(n, 0), -1);
            Check.due("line(0, " + n + ")", maker.line(0, n), -1);
        }
        Check.due("function(0, 4)", maker.function(0, 4), -1);
        Check.due("line(0, 4)", maker.line(0, 4), -1);
        Check.due("trouble() is the run's", maker.trouble(), 1);
    }
}
