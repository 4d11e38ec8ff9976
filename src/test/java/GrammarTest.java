import java.util.ArrayList;
import java.util.List;
import java.util.Random;

/** Promises 3 to 5, held against Grammar over texts that are nearly programs. */
final class GrammarTest {
    private static final String[] PIECES = {"def", "say", "return", "if", "else", "while", "a", "b", "h",
        "i", "fa", "fb", "zz", "abcdefgh", "abcdefghi", "0", "12345", "123456", "(", ")", "{", "}", ",", ";",
        "=", "<", ">", "+", "-", "*", "$", "A", "\t", "{a=1}", "(1)", ",1", ",a", ";a=1", "((((((", "fa()",
        "fa(1)", "fb(1,2)", "fb(1,2,3,", "if 1=1{", "def fa(){a=1}", "def zz(a,b,c){a=1}", "else{a=1}"};

    // Behind the first sign of each of these the rest of it mostly fits.
    private static final String[] FITTING = {"{a=1;", ";if 1=1{say 1};", "{while a<1{if 1=1{a=1}};", "=(1)+",
        "=((1))*", "=(((1)))-", "=fa(1,2,3,4)+", "=fb(1,(2),3,(4))*", "(a,", "(b,a,", "(1,", "}def fa(){a=1}",
        "}def zz(a,b,c,a){a=1}", "}def wh(a,b,c,d){a=1}"};

    public static void main(String[] args) {
        int[] met = new int[5];
        for (int seed = 1; seed <= 6000; seed++) {
            Random random = new Random(seed);
            String text = nearly(random, base(random));
            if (text.length() <= Model.ROOM) {
                met[look(text)]++;
            }
        }
        for (int fault = 0; fault < met.length; fault++) {
            System.out.println("FAULT " + fault + " is met " + met[fault] + " times");
            Check.due("FAULT " + fault + " is met often", met[fault] >= 20 ? 1 : 0, 1);
        }
        Check.end();
    }

    private static int look(String text) {
        Grammar grammar = new Grammar(text);
        LessonMaker maker = new LessonMaker();
        int answer = Check.program(maker, text);
        Check.due("fault() of \"" + text + "\"", maker.fault(), grammar.fault);
        Check.due("where() of \"" + text + "\"", maker.where(), grammar.where);
        Check.due("refused: \"" + text + "\"", answer < 0 ? 1 : 0, grammar.fault != 0 ? 1 : 0);
        return grammar.fault;
    }

    private static String base(Random random) {
        if (random.nextInt(4) == 0) {
            return crowded(random);
        }
        Model.Maker maker = new Model.Maker(random.nextLong());
        maker.pickNames(1 + random.nextInt(4));
        List<Model.Function> functions = new ArrayList<>();
        for (int f = 0; f < maker.names.size(); f++) {
            functions.add(maker.function(f, 2));
        }
        return new Model.Writer(maker.names, random).write(functions).text;
    }

    /** A program near one of the bounds. */
    private static String crowded(Random random) {
        switch (random.nextInt(4)) {
            case 0:
                StringBuilder functions = new StringBuilder();
                for (int f = 0; f < 10; f++) {
                    functions.append("def f").append((char) ('a' + f)).append("(){a=1}");
                }
                return functions.toString();
            case 1:
                return "def fa(){" + Check.times("a=1;", 59) + "a=1}";
            case 2:
                return "def fa(){" + Check.times("if a=1{", 5) + "a=1" + Check.times("}", 6);
            default:
                return "def fa(a){a=" + Check.times("fa(", 3) + "(((1)))" + Check.times(")", 3) + "}";
        }
    }

    static String nearly(Random random, String text) {
        StringBuilder changed = new StringBuilder(text);
        int fits = random.nextInt(4);
        for (int i = 0; i < fits; i++) {
            String piece = FITTING[random.nextInt(FITTING.length)];
            int at = changed.indexOf(piece.substring(0, 1), random.nextInt(changed.length()));
            if (at >= 0) {
                changed.insert(at + 1, piece.substring(1));
            }
        }
        int changes = random.nextInt(3) - random.nextInt(2);
        for (int i = 0; i < changes; i++) {
            int at = random.nextInt(changed.length() + 1);
            int way = random.nextInt(4);
            if (way == 0 && at < changed.length()) {
                changed.deleteCharAt(at);
            } else if (way == 1 && at < changed.length()) {
                changed.setCharAt(at, (char) random.nextInt(256));
            } else if (way == 2) {
                changed.setLength(at);
            } else {
                changed.insert(at, PIECES[random.nextInt(PIECES.length)]);
            }
            if (changed.length() == 0) {
                changed.append(' ');
            }
        }
        return changed.toString();
    }
}
