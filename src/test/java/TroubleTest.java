/** Promises 5 (where) and 26 (trouble): which calls change TROUBLE, and which leave it. */
final class TroubleTest {
    public static void main(String[] args) {
        everyAcceptedCallClears();
        askingLeavesIt();
        whereOnlyBehindAFault();
        Check.end();
    }

    private static LessonMaker refused() {
        LessonMaker maker = Check.withProgram("def aa(a){say a}");
        maker.run(0, 0, 0, 0, 9);
        Check.program(maker, "def");
        Check.due("trouble()", maker.trouble(), 4);
        Check.due("where()", maker.where(), 3);
        return maker;
    }

    private static void dueClear(String call, LessonMaker maker) {
        Check.due("trouble() behind " + call, maker.trouble(), 0);
        Check.due("where() behind " + call, maker.where(), -1);
        Check.due("fault() behind " + call, maker.fault(), 1);
    }

    private static void everyAcceptedCallClears() {
        LessonMaker maker = refused();
        maker.feed(0, 0, 0, 0, 0);
        dueClear("feed", maker);
        maker = refused();
        maker.run(0, 0, 0, 0, 1);
        dueClear("run", maker);
        maker = refused();
        maker.ran(0);
        dueClear("ran", maker);
        maker = refused();
        maker.place(0);
        dueClear("place", maker);
        maker = refused();
        maker.wrong(0, 0, 0, 0, 0);
        dueClear("wrong", maker);
        maker = refused();
        maker.unlike(0, 0, 0, 0);
        dueClear("unlike", maker);
        maker = refused();
        maker.tell(0, 0, 0, 0);
        dueClear("tell", maker);
        maker = refused();
        Check.program(maker, "def aa(){a=1}");
        Check.due("trouble() behind program", maker.trouble(), 0);
        Check.due("fault() behind program", maker.fault(), 0);
    }

    private static void askingLeavesIt() {
        LessonMaker maker = refused();
        maker.fault();
        maker.function(0, 0);
        maker.function(9, 0);
        maker.name(0, 0);
        Check.dueNoSuch("name(9, 9)", () -> maker.name(9, 9));
        maker.line(0, 0);
        maker.line(9, 0);
        maker.said(0);
        Check.dueNoSuch("said(9)", () -> maker.said(9));
        maker.trace(0, 0);
        Check.dueNoSuch("trace(9, 0)", () -> maker.trace(9, 0));
        maker.covered(0);
        maker.covered(9);
        maker.order();
        maker.chapter(0);
        maker.chapter(9);
        maker.shown();
        maker.fewest();
        maker.picked(0);
        maker.anew(0);
        maker.anew(9);
        maker.gone();
        maker.count(0);
        maker.count(9);
        Check.due("trouble()", maker.trouble(), 4);
        Check.due("where()", maker.where(), 3);
    }

    private static void whereOnlyBehindAFault() {
        LessonMaker maker = refused();
        Check.due("run of none", maker.run(4, 0, 0, 0, 1), -1);
        Check.due("where()", maker.where(), -1);
        Check.due("fault()", maker.fault(), 1);
        Check.due("program(0)", maker.program(0), -1);
        Check.due("where()", maker.where(), 0);
    }
}
