/** Promises 17 (order) and 18 (chapter). */
final class ChaptersTest {
    public static void main(String[] args) {
        dueOrder("def aa(){a=1}", 0, 0);
        dueOrder("def aa(){say aa()}", 0, 0);
        dueOrder("def aa(){say 1}def bb(){say 1}def cc(){say 1}", 0, 0, 1, 2);
        dueOrder("def aa(){say bb()}def bb(){say 1}def cc(){say 1}", 0, 1, 0, 2);
        dueOrder("def aa(){say cc()}def bb(){say 1}def cc(){say 1}", 0, 1, 2, 0);
        dueOrder("def aa(){say bb()+bb()}def bb(){say aa()+bb()}", 1, 0, 1);
        dueOrder("def aa(){say bb()}def bb(){say cc()}def cc(){say aa()}", 1, 0, 2, 1);
        dueOrder("def aa(){say bb()+cc()}def bb(){say aa()}def cc(){say aa()}", 2, 0, 1, 2);
        dueOrder("def aa(){say bb()+cc()}def bb(){say 1}def cc(){say aa()+bb()}", 1, 1, 0, 2);
        tenInARow();
        wrongNumbers();
        chapterAlone();
        newProgramNewOrder();
        Check.end();
    }

    private static void dueOrder(String text, int want, int... chapters) {
        LessonMaker maker = Check.withProgram(text);
        Check.due("order() of " + text, maker.order(), want);
        for (int i = 0; i < chapters.length; i++) {
            Check.due("chapter(" + i + ") of " + text, maker.chapter(i), chapters[i]);
        }
        Check.due("chapter beyond", maker.chapter(chapters.length), -1);
    }

    private static void tenInARow() {
        StringBuilder text = new StringBuilder();
        for (int f = 0; f < 10; f++) {
            text.append("def f").append((char) ('a' + f)).append("(){say ");
            text.append(f < 9 ? "f" + (char) ('b' + f) + "()" : "1").append("}");
        }
        dueOrder(text.toString(), 0, 9, 8, 7, 6, 5, 4, 3, 2, 1, 0);
    }

    private static void wrongNumbers() {
        LessonMaker maker = Check.withProgram("def aa(){say 1}def bb(){say 1}");
        maker.run(5, 0, 0, 0, 1);
        int[] bad = {-1, 2, 10, Integer.MIN_VALUE, Integer.MAX_VALUE};
        for (int i : bad) {
            Check.due("chapter(" + i + ")", maker.chapter(i), -1);
        }
        Check.due("trouble() is the run's", maker.trouble(), 1);
    }

    private static void chapterAlone() {
        LessonMaker maker = Check.withProgram("def aa(){say bb()}def bb(){say 1}");
        Check.due("chapter(0) without order()", maker.chapter(0), 1);
        Check.due("chapter(1) without order()", maker.chapter(1), 0);
    }

    private static void newProgramNewOrder() {
        LessonMaker maker = Check.withProgram("def aa(){say bb()}def bb(){say aa()}");
        Check.due("order()", maker.order(), 1);
        Check.program(maker, "def aa(){say bb()}def bb(){say 1}");
        Check.due("chapter(0)", maker.chapter(0), 1);
        Check.due("order()", maker.order(), 0);
    }
}
