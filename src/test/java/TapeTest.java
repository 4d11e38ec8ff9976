/** Promises 1 (a new object), 2 (feed), 3 (program, without its texts) and 25 (count). */
final class TapeTest {
    public static void main(String[] args) {
        newObject();
        feedsTwenty();
        feedsToTheEnd();
        bytesHighestFirst();
        programTakesBytes();
        programByANumber();
        faultLeavesAllButTheTape();
        programForgets();
        counts();
        Check.end();
    }

    private static void newObject() {
        LessonMaker maker = new LessonMaker();
        for (int what = 0; what < 4; what++) {
            Check.due("new: count(" + what + ")", maker.count(what), 0);
        }
        Check.due("new: trouble()", maker.trouble(), 0);
        Check.due("new: fault()", maker.fault(), 0);
        Check.due("new: where()", maker.where(), -1);
        Check.due("new: function(0, 0)", maker.function(0, 0), -1);
        Check.due("new: line(0, 0)", maker.line(0, 0), -1);
        Check.due("new: order()", maker.order(), -2);
        Check.due("new: chapter(0)", maker.chapter(0), -1);
        Check.due("new: covered(0)", maker.covered(0), -1);
        Check.due("new: shown()", maker.shown(), 0);
        Check.due("new: fewest()", maker.fewest(), 0);
        Check.due("new: picked(0)", maker.picked(0), -1);
        Check.due("new: anew(0)", maker.anew(0), -1);
        Check.due("new: gone()", maker.gone(), 0);
        Check.dueNoSuch("new: name(0, 0)", () -> maker.name(0, 0));
        Check.dueNoSuch("new: said(0)", () -> maker.said(0));
        Check.dueNoSuch("new: trace(0, 0)", () -> maker.trace(0, 0));
        Check.due("new: trouble() behind all these", maker.trouble(), 0);
        Check.due("new: wrong(0, 0, 0, 0, 0)", maker.wrong(0, 0, 0, 0, 0), -1);
        Check.due("new: trouble() of wrong", maker.trouble(), 1);
        Check.due("NONE", LessonMaker.NONE, -1);
    }

    private static void feedsTwenty() {
        LessonMaker maker = new LessonMaker();
        for (int i = 1; i <= 3; i++) {
            Check.due("feed " + i, maker.feed(0, 0, 0, 0, 0), 20 * i);
            Check.due("count(3)", maker.count(3), 20 * i);
        }
    }

    private static void feedsToTheEnd() {
        LessonMaker maker = new LessonMaker();
        String text = "def aa(){say 7}" + Check.times(" ", 585);
        Check.due("feed of 600", Check.feed(maker, text), 600);
        Check.due("trouble() of it", maker.trouble(), 0);
        Check.due("feed of 620", maker.feed(1, 2, 3, 4, 5), -1);
        Check.due("trouble() of it", maker.trouble(), 3);
        Check.due("where() of it", maker.where(), -1);
        Check.due("count(3)", maker.count(3), 600);
        Check.due("program(601)", maker.program(601), -1);
        Check.due("program(600)", maker.program(600), 1);
        Check.due("feed behind it", maker.feed(1, 2, 3, 4, 5), 20);
        Check.due("trouble() of it", maker.trouble(), 0);
    }

    private static void bytesHighestFirst() {
        LessonMaker maker = new LessonMaker();
        // "def abcd(){say 12345}" but for its last byte, by numbers written out
        maker.feed(0x64656620, 0x61626364, 0x28297b73, 0x61792031, 0x32333435);
        maker.feed(0x7d202020, 0x20202020, 0x20202020, 0x20202020, 0x20202020);
        Check.due("program(21)", maker.program(21), 1);
        for (int i = 0; i < 4; i++) {
            Check.due("name(0, " + i + ")", maker.name(0, i), 'a' + i);
        }
        maker.run(0, 0, 0, 0, 1);
        Check.due("said(0)", maker.said(0), 12345);
        // bytes of 128 and above are those that begin no TOKEN
        maker.feed(0x64656620, 0x616263e4, 0xffffffff, 0x80000000, -1);
        Check.due("program(20)", maker.program(20), -1);
        Check.due("fault()", maker.fault(), 1);
        Check.due("where()", maker.where(), 7);
    }

    private static void programTakesBytes() {
        LessonMaker maker = new LessonMaker();
        Check.feed(maker, "def aa(){say 1}xxxxxx");
        Check.due("count(3)", maker.count(3), 40);
        Check.due("program(15)", maker.program(15), 1);
        Check.due("count(3) then", maker.count(3), 0);
        Check.due("program(0) then", maker.program(0), -1);
        Check.due("fault()", maker.fault(), 1);
        Check.due("where()", maker.where(), 0);
        Check.due("count(0)", maker.count(0), 1);
    }

    private static void programByANumber() {
        LessonMaker maker = new LessonMaker();
        Check.feed(maker, "def aa(){say 1}x");
        Check.due("program(16)", maker.program(16), -1);
        Check.due("where()", maker.where(), 15);
        Check.feed(maker, "def aa(){say 1}");
        int[] bad = {-1, 21, 600, Integer.MIN_VALUE, Integer.MAX_VALUE};
        for (int n : bad) {
            Check.due("program(" + n + ")", maker.program(n), -1);
            Check.due("trouble()", maker.trouble(), 2);
            Check.due("where()", maker.where(), -1);
            Check.due("fault() is the one before", maker.fault(), 1);
            Check.due("count(3)", maker.count(3), 20);
        }
        Check.due("program(20)", maker.program(20), 1);
        Check.due("fault()", maker.fault(), 0);
        Check.due("program(-1)", maker.program(-1), -1);
        Check.due("fault()", maker.fault(), 0);
    }

    private static void faultLeavesAllButTheTape() {
        LessonMaker maker = Check.withProgram("def aa(){say 5}");
        Check.program(maker, "def bb(a){b = a;say b;return 9} def cc(){say bb(1)}");
        maker.run(0, 4, 0, 0, 100);
        maker.tell(0, 1, 0, 0);
        maker.fewest();
        Check.due("program() with a FAULT", Check.program(maker, "def dd(){say dd(1)}"), -1);
        Check.due("fault()", maker.fault(), 4);
        Check.due("where()", maker.where(), 13);
        Check.due("count(0)", maker.count(0), 2);
        Check.due("count(1)", maker.count(1), 4);
        Check.due("count(2)", maker.count(2), 1);
        Check.due("count(3)", maker.count(3), 0);
        Check.due("name(0, 0)", maker.name(0, 0), 'b');
        Check.due("ran(0)", maker.ran(0), 9);
        Check.due("where() behind ran", maker.where(), -1);
        Check.due("fault() behind ran", maker.fault(), 4);
        Check.due("said(0)", maker.said(0), 4);
        Check.due("trace(0, 3)", maker.trace(0, 3), 4);
        Check.due("picked(0)", maker.picked(0), 0);
        Check.due("shown()", maker.shown(), 3);
        Check.due("gone()", maker.gone(), 1);
        Check.due("anew(0)", maker.anew(0), 2);
        Check.due("chapter(0)", maker.chapter(0), 0);
        Check.due("run()", maker.run(1, 0, 0, 0, 100), 0);
        Check.due("covered(3)", maker.covered(3), 1);
    }

    private static void programForgets() {
        LessonMaker maker = Check.withProgram("def aa(){say 5}");
        maker.run(0, 0, 0, 0, 1);
        maker.tell(0, 0, 0, 0);
        maker.fewest();
        Check.due("picked(0)", maker.picked(0), 0);
        Check.due("program()", Check.program(maker, "def aa(){say 5}"), 1);
        Check.due("count(2)", maker.count(2), 0);
        Check.due("shown()", maker.shown(), 0);
        Check.due("picked(0)", maker.picked(0), -1);
        Check.due("covered(0)", maker.covered(0), -1);
        Check.due("ran(0)", maker.ran(0), -1);
        Check.due("trouble()", maker.trouble(), 5);
        Check.due("place(0)", maker.place(0), -1);
        Check.due("trouble()", maker.trouble(), 5);
        Check.dueNoSuch("said(0)", () -> maker.said(0));
        Check.dueNoSuch("trace(0, 0)", () -> maker.trace(0, 0));
        Check.due("tell()", maker.tell(0, 0, 0, 0), 0);
    }

    private static void counts() {
        LessonMaker maker = Check.withProgram("def aa(){say 5;say 6} def bb(){if 1=2{say 3}}");
        maker.tell(0, 0, 0, 0);
        maker.tell(0, 0, 0, 0);
        maker.tell(1, 0, 0, 0);
        maker.feed(0, 0, 0, 0, 0);
        int[] want = {2, 4, 3, 20};
        for (int what = 0; what < want.length; what++) {
            Check.due("count(" + what + ")", maker.count(what), want[what]);
        }
        int[] bad = {-1, 4, 5, Integer.MIN_VALUE, Integer.MAX_VALUE};
        for (int what : bad) {
            Check.due("count(" + what + ")", maker.count(what), -1);
        }
        Check.due("trouble()", maker.trouble(), 0);
    }
}
