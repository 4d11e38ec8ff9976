import java.util.NoSuchElementException;

/** What the tests share: texts put into a LessonMaker, and answers held against those that are due. */
final class Check {
    static final int[] FAR = {Integer.MIN_VALUE, -600, -1, 601, 2001, Integer.MAX_VALUE};

    private static int wrong = 0;
    private static int looked = 0;
    private static String sentence = "";
    private static int lookedAhead = 0;

    private Check() {
    }

    interface Call {
        int answer();
    }

    static void due(String what, long got, long want) {
        looked++;
        if (got != want) {
            wrong++;
            if (wrong <= 20) {
                System.out.println(sentence + what + " answered " + got + ", due is " + want);
            }
        }
    }

    /** What is looked at from here on is what this sentence of the document says. */
    static void sentence(String words) {
        endSentence();
        sentence = "[" + words + "] ";
        lookedAhead = looked;
    }

    private static void endSentence() {
        if (!sentence.isEmpty() && looked == lookedAhead) {
            due("a sentence without a test", 0, 1);
        }
    }

    /** A call is refused: it answers NONE, and TROUBLE tells why. */
    static void dueRefused(String what, LessonMaker maker, int got, int trouble) {
        due(what, got, LessonMaker.NONE);
        due("trouble() of " + what, maker.trouble(), trouble);
    }

    /** A call that may be refused is not. */
    static void dueTaken(String what, LessonMaker maker, int got, int want) {
        due(what, got, want);
        due("trouble() of " + what, maker.trouble(), 0);
    }

    static void dueNoSuch(String what, Call call) {
        boolean thrown = false;
        int got = 0;
        try {
            got = call.answer();
        } catch (NoSuchElementException e) {
            thrown = true;
        }
        due(what + " (answered " + got + ") throws NoSuchElementException", thrown ? 1 : 0, 1);
    }

    /** Feeds a text, with blanks behind it up to a whole feed: the latest answer. */
    static int feed(LessonMaker maker, String text) {
        int answer = 0;
        for (int i = 0; i < text.length(); i += 20) {
            answer = maker.feed(four(text, i), four(text, i + 4), four(text, i + 8),
                    four(text, i + 12), four(text, i + 16));
        }
        return answer;
    }

    static int program(LessonMaker maker, String text) {
        feed(maker, text);
        return maker.program(text.length());
    }

    static LessonMaker withProgram(String text) {
        LessonMaker maker = new LessonMaker();
        int functions = program(maker, text);
        if (functions < 1) {
            due("a FAULT " + maker.fault() + " at " + maker.where() + " of " + text, functions, 1);
        }
        return maker;
    }

    /** A text is refused by a FAULT at a place. */
    static void dueFault(String text, int fault, int where) {
        LessonMaker maker = new LessonMaker();
        String what = " of \"" + text + "\"";
        due("program()" + what, program(maker, text), LessonMaker.NONE);
        due("trouble()" + what, maker.trouble(), 4);
        due("fault()" + what, maker.fault(), fault);
        due("where()" + what, maker.where(), where);
        due("count(0)" + what, maker.count(0), 0);
        due("count(3)" + what, maker.count(3), 0);
    }

    static void dueFine(String text, int functions) {
        LessonMaker maker = new LessonMaker();
        due("program() of \"" + text + "\"", program(maker, text), functions);
        due("trouble() of \"" + text + "\"", maker.trouble(), 0);
        due("fault() of \"" + text + "\"", maker.fault(), 0);
        due("where() of \"" + text + "\"", maker.where(), LessonMaker.NONE);
    }

    static void end() {
        endSentence();
        System.out.println(wrong + " of " + looked + " answers are wrong");
        if (wrong != 0 || looked == 0) {
            System.exit(1);
        }
    }

    static String times(String part, int n) {
        StringBuilder all = new StringBuilder();
        for (int i = 0; i < n; i++) {
            all.append(part);
        }
        return all.toString();
    }

    static int four(String text, int i) {
        int number = 0;
        for (int j = i; j < i + 4; j++) {
            number = number << 8 | (j < text.length() ? text.charAt(j) & 255 : 32);
        }
        return number;
    }
}
