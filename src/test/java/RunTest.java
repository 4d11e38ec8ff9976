/** Promises 9 (run), 10 (ran), 11 (said), 12 (trace), 13 (covered) and 14 (place). */
final class RunTest {
    public static void main(String[] args) {
        values();
        placesOfACall();
        numbersGoRound();
        steps();
        traceOfLines();
        traceOfCalls();
        fuelEnds();
        deepEnds();
        keptAndCounted();
        coveredLines();
        placesAtTheEnd();
        longSums();
        openNumbers();
        refusals();
        refusedRunLeavesTheLatest();
        Check.end();
    }

    private static void dueValue(String text, int value, int... numbers) {
        LessonMaker maker = Check.withProgram(text);
        int x = numbers.length > 0 ? numbers[0] : 77;
        int y = numbers.length > 1 ? numbers[1] : 88;
        int z = numbers.length > 2 ? numbers[2] : 99;
        Check.due("END of " + text, maker.run(0, x, y, z, 2000), 0);
        Check.due("VALUE of " + text, maker.ran(0), value);
    }

    private static void values() {
        dueValue("def aa(){return 7}", 7);
        dueValue("def aa(){say 7}", 0);
        dueValue("def aa(){return 9-3-2}", 4);
        dueValue("def aa(){return 9-(3-2)}", 8);
        dueValue("def aa(){return 2+3*4-5*2*1}", 4);
        dueValue("def aa(){return (2+3)*4}", 20);
        dueValue("def aa(){return 00012}", 12);
        dueValue("def aa(a){if a<3{return 1};return 2}", 1, 2);
        dueValue("def aa(a){if a<3{return 1};return 2}", 2, 3);
        dueValue("def aa(a){if a>3{return 1};return 2}", 2, 3);
        dueValue("def aa(a){if a>3{return 1};return 2}", 1, 4);
        dueValue("def aa(a){if a=3{return 1}else{return 5};return 2}", 1, 3);
        dueValue("def aa(a){if a=3{return 1}else{return 5};return 2}", 5, -3);
        dueValue("def aa(a){while a>0{b=b+a;a=a-1};return b}", 55, 10);
        dueValue("def aa(a){while a>0{if a=3{return b};b=b+a;a=a-1}}", 49, 10);
        dueValue("def aa(a){while 1=1{while 1=1{return a}}}", 6, 6);
        dueValue("def aa(){return bb(1,2)*100+bb(2,1)}def bb(d,c){return d*10+c}", 1221);
        dueValue("def aa(){return bb()}def bb(){a=1}", 0);
    }

    private static void placesOfACall() {
        dueValue("def aa(c,a,h){return c*100+a*10+h}", 123, 1, 2, 3);
        dueValue("def aa(a){return a+b+c}", 1, 1, 2, 3);
        dueValue("def aa(){return a+b+c+d+e+f+g+h}", 0, 1, 2, 3);
        dueValue("def aa(a){b=5;a=a+bb(1);return a*100+b}def bb(b){a=b+50;b=9;return a}", 6105, 10);
        dueValue("def aa(){a=bb();return a*10+bb()}def bb(){a=a+1;return a}", 11);
    }

    private static void numbersGoRound() {
        dueValue("def aa(a){return a+1}", Integer.MIN_VALUE, Integer.MAX_VALUE);
        dueValue("def aa(a){return 0-a}", Integer.MIN_VALUE, Integer.MIN_VALUE);
        dueValue("def aa(){return 99999*99999}", 99999 * 99999);
        dueValue("def aa(a,b){if a<b{return 1}}", 1, Integer.MIN_VALUE, Integer.MAX_VALUE);
    }

    private static void dueRan(LessonMaker maker, String what, int... want) {
        for (int i = 0; i < want.length; i++) {
            Check.due(what + ": ran(" + i + ")", maker.ran(i), want[i]);
        }
    }

    private static void steps() {
        LessonMaker maker = Check.withProgram("def aa(a){while a>0{a=a-1;say a};return 4}");
        Check.due("run", maker.run(0, 0, 0, 0, 2000), 0);
        dueRan(maker, "none", 4, 2, 0, 2, 2, 1);
        Check.due("run", maker.run(0, 2, 0, 0, 2000), 0);
        dueRan(maker, "two", 4, 8, 2, 8, 4, 1);
        maker = Check.withProgram("def aa(){if 1=2{say 1}else{say 2};if 1=2{say 3};say bb()}def bb(){a=1}");
        Check.due("run", maker.run(0, 0, 0, 0, 2000), 0);
        dueRan(maker, "ifs", 0, 5, 2, 5, 5, 2);
    }

    private static void dueTrace(LessonMaker maker, int i, int... want) {
        for (int what = 0; what < want.length; what++) {
            Check.due("trace(" + i + ", " + what + ")", maker.trace(i, what), want[what]);
        }
    }

    private static void traceOfLines() {
        LessonMaker maker = Check.withProgram(
                "def aa(b){b=b*b;h=b-1;b=b;if b=9{say b+1};while b>8{b=b-1};if 1=2{say 1};return 5;say 1}");
        Check.due("run", maker.run(0, 3, 0, 0, 2000), 0);
        dueTrace(maker, 0, 0, 1, 3, 9);
        dueTrace(maker, 1, 1, 7, 0, 8);
        dueTrace(maker, 2, 2, 1, 9, 9);
        dueTrace(maker, 3, 3, -1, 0, 1);
        dueTrace(maker, 4, 4, -1, 0, 10);
        dueTrace(maker, 5, 5, -1, 0, 1);
        dueTrace(maker, 6, 6, 1, 9, 8);
        dueTrace(maker, 7, 5, -1, 0, 0);
        dueTrace(maker, 8, 7, -1, 0, 0);
        dueTrace(maker, 9, 9, -1, 0, 5);
        Check.due("TRACE's length", maker.ran(3), 10);
        int[] bad = {-1, 10, 400, Integer.MIN_VALUE, Integer.MAX_VALUE};
        for (int i : bad) {
            Check.dueNoSuch("trace(" + i + ", 0)", () -> maker.trace(i, 0));
        }
        int[] badWhat = {-1, 4, Integer.MIN_VALUE, Integer.MAX_VALUE};
        for (int what : badWhat) {
            Check.dueNoSuch("trace(0, " + what + ")", () -> maker.trace(0, what));
        }
        int[] badSaid = {-1, 1, 60, Integer.MIN_VALUE, Integer.MAX_VALUE};
        for (int i : badSaid) {
            Check.dueNoSuch("said(" + i + ")", () -> maker.said(i));
        }
        Check.due("said(0)", maker.said(0), 10);
    }

    private static void traceOfCalls() {
        LessonMaker maker = Check.withProgram("def aa(a){a=bb(a)+bb(a+1);if bb(9)=90{return bb(a)}}"
                + "def bb(a){say a;return a*10}");
        Check.due("run", maker.run(0, 1, 0, 0, 2000), 0);
        int[] lines = {3, 4, 3, 4, 0, 3, 4, 1, 3, 4, 2};
        int[] thens = {1, 10, 2, 20, 30, 9, 90, 1, 30, 300, 300};
        Check.due("TRACE's length", maker.ran(3), lines.length);
        for (int i = 0; i < lines.length; i++) {
            Check.due("trace(" + i + ", 0)", maker.trace(i, 0), lines[i]);
            Check.due("trace(" + i + ", 3)", maker.trace(i, 3), thens[i]);
        }
        int[] said = {1, 2, 9, 30};
        for (int i = 0; i < said.length; i++) {
            Check.due("said(" + i + ")", maker.said(i), said[i]);
        }
    }

    private static void fuelEnds() {
        LessonMaker maker = Check.withProgram("def aa(a){a=1;say a;return bb()}def bb(){say 2;return 3}");
        Check.due("fuel 5", maker.run(0, 0, 0, 0, 5), 0);
        dueRan(maker, "fuel 5", 3, 5, 2, 5, 5, 2);
        Check.due("fuel 4", maker.run(0, 0, 0, 0, 4), 1);
        dueRan(maker, "fuel 4", 0, 4, 2, 3, 4, 2);
        Check.due("covered(4)", maker.covered(4), 0);
        Check.due("covered(2)", maker.covered(2), 1);
        Check.due("fuel 3", maker.run(0, 0, 0, 0, 3), 1);
        dueRan(maker, "fuel 3", 0, 3, 1, 2, 3, 2);
        Check.due("fuel 1", maker.run(0, 0, 0, 0, 1), 1);
        dueRan(maker, "fuel 1", 0, 1, 0, 1, 1, 1);
        maker = Check.withProgram("def aa(){while 1=1{a=a+1};return 5}");
        Check.due("ever", maker.run(0, 0, 0, 0, 2000), 1);
        dueRan(maker, "ever", 0, 2000, 0, 2000, 2, 1);
        Check.due("place(0)", maker.place(0), 1000);
        maker = Check.withProgram("def aa(){while a<1{a=a+1};return 5}");
        Check.due("the further TEST is a STEP", maker.run(0, 0, 0, 0, 2), 1);
        Check.due("and then the return", maker.run(0, 0, 0, 0, 3), 1);
        Check.due("all four", maker.run(0, 0, 0, 0, 4), 0);
    }

    private static void deepEnds() {
        LessonMaker maker = Check.withProgram("def aa(a){if a>1{return aa(a-1)+1};return 1}");
        Check.due("8", maker.run(0, 8, 0, 0, 2000), 0);
        dueRan(maker, "8", 8, 16, 0, 16, 3, 8);
        Check.due("9", maker.run(0, 9, 0, 0, 2000), 2);
        dueRan(maker, "9", 0, 16, 0, 8, 2, 8);
        Check.due("9 and no fuel", maker.run(0, 9, 0, 0, 15), 1);
        maker = Check.withProgram("def aa(){say bb();say bb();say 4}def bb(){say cc()}def cc(){return 1}");
        Check.due("calls beside one another", maker.run(0, 0, 0, 0, 2000), 0);
        dueRan(maker, "beside", 0, 7, 5, 7, 5, 3);
    }

    private static void keptAndCounted() {
        LessonMaker maker = Check.withProgram("def aa(a){while b<a{say b*2;b=b+1}}");
        Check.due("run", maker.run(0, 60, 0, 0, 2000), 0);
        Check.due("said(59)", maker.said(59), 118);
        Check.dueNoSuch("said(60) of 60", () -> maker.said(60));
        Check.due("run", maker.run(0, 200, 0, 0, 2000), 0);
        dueRan(maker, "200", 0, 601, 200, 601, 3, 1);
        Check.due("said(59)", maker.said(59), 118);
        Check.dueNoSuch("said(60) of 200", () -> maker.said(60));
        Check.due("trace(399, 0)", maker.trace(399, 0), 0);
        Check.due("trace(398, 0)", maker.trace(398, 0), 2);
        Check.due("trace(398, 2)", maker.trace(398, 2), 132);
        Check.due("trace(398, 3)", maker.trace(398, 3), 133);
        Check.dueNoSuch("trace(400, 0)", () -> maker.trace(400, 0));
        Check.due("run again", maker.run(0, 1, 0, 0, 2000), 0);
        Check.dueNoSuch("said(1) of 1", () -> maker.said(1));
        Check.dueNoSuch("trace(4, 0) of 4", () -> maker.trace(4, 0));
    }

    private static void coveredLines() {
        String many = "def aa(a){if a=1{" + Check.times("a=1;", 57) + "a=2};return 1}";
        LessonMaker maker = Check.withProgram(many);
        Check.due("covered(0), nothing was run", maker.covered(0), -1);
        maker.run(0, 0, 0, 0, 2000);
        Check.due("covered(0)", maker.covered(0), 1);
        Check.due("covered(1)", maker.covered(1), 0);
        Check.due("covered(58)", maker.covered(58), 0);
        Check.due("covered(59)", maker.covered(59), 1);
        Check.due("ran(4)", maker.ran(4), 2);
        int[] bad = {-1, 60, 64, Integer.MIN_VALUE, Integer.MAX_VALUE};
        for (int l : bad) {
            Check.due("covered(" + l + ")", maker.covered(l), -1);
        }
        maker.run(0, 1, 0, 0, 2000);
        Check.due("ran(4)", maker.ran(4), 60);
        Check.due("covered(58)", maker.covered(58), 1);
    }

    private static void placesAtTheEnd() {
        LessonMaker maker = Check.withProgram("def aa(b,a){c=a*2;h=bb(c);d=7}def bb(a){b=a;a=50;c=60;return b}");
        maker.run(0, 3, 4, 5, 2000);
        int[] want = {4, 3, 8, 7, 0, 0, 0, 8};
        for (int k = 0; k < 8; k++) {
            Check.due("place(" + k + ")", maker.place(k), want[k]);
        }
        maker.run(0, 3, 4, 5, 4);
        int[] cut = {4, 3, 8, 0, 0, 0, 0, 0};
        for (int k = 0; k < 8; k++) {
            Check.due("cut: place(" + k + ")", maker.place(k), cut[k]);
        }
        maker.run(1, 3, 4, 5, 2000);
        Check.due("place(0)", maker.place(0), 50);
        Check.due("place(3)", maker.place(3), 0);
    }

    private static void longSums() {
        String text = "def aa(){while 1" + Check.times("+1", 280) + ">0{a=a+1}}";
        LessonMaker maker = Check.withProgram(text);
        Check.due("a long TEST, again and again", maker.run(0, 0, 0, 0, 2000), 1);
        dueRan(maker, "long", 0, 2000, 0, 2000, 2, 1);
        Check.due("place(0)", maker.place(0), 1000);
        text = "def aa(){while 1" + Check.times("+1", 130) + ">0{while 1" + Check.times("*1", 140) + "<0{a=1}}}";
        maker = Check.withProgram(text);
        Check.due("two of them", maker.run(0, 0, 0, 0, 2000), 1);
        dueRan(maker, "two", 0, 2000, 0, 2000, 2, 1);
    }

    /** As many numbers as can be are open while calls go eight deep. */
    private static void openNumbers() {
        String open = Check.times("1+2*bb(1,2,", 5);
        String text = "def aa(a,b,c){if 3+a*b<" + open + "1+2*cc(a+1,b,c)" + Check.times(")", 5)
                + "{return a+c};return 0-1}def bb(a,b,c){return a+b+c}def cc(a,b,c){if a>b{return c};return aa(a,b,c)}";
        LessonMaker maker = Check.withProgram(text);
        Check.due("END", maker.run(0, 0, 3, 5, 2000), 0);
        Check.due("VALUE", maker.ran(0), openAa(0, 3, 5));
        Check.due("deepest", maker.ran(5), 8);
        Check.due("END", maker.run(0, 0, 4, 5, 2000), 2);
    }

    private static int openAa(int a, int b, int c) {
        int right = 1 + 2 * (a + 1 > b ? c : openAa(a + 1, b, c));
        for (int i = 0; i < 5; i++) {
            right = 1 + 2 * (1 + 2 + right);
        }
        return 3 + a * b < right ? a + c : -1;
    }

    private static void dueTrouble(LessonMaker maker, String call, int got, int trouble) {
        Check.due(call, got, -1);
        Check.due("trouble() of " + call, maker.trouble(), trouble);
    }

    private static void refusals() {
        LessonMaker maker = new LessonMaker();
        dueTrouble(maker, "run without a PROGRAM", maker.run(0, 0, 0, 0, 1), 1);
        dueTrouble(maker, "ran(0) without a run", maker.ran(0), 5);
        dueTrouble(maker, "ran(6) without a run", maker.ran(6), 5);
        dueTrouble(maker, "place(8) without a run", maker.place(8), 5);
        Check.program(maker, "def aa(){return 1}");
        int[] bad = {-1, 1, 10, Integer.MIN_VALUE, Integer.MAX_VALUE};
        for (int f : bad) {
            dueTrouble(maker, "run(" + f + ")", maker.run(f, 0, 0, 0, 1), 1);
            dueTrouble(maker, "run(" + f + ") without fuel", maker.run(f, 0, 0, 0, 0), 1);
        }
        int[] badFuel = {-1, 0, 2001, Integer.MIN_VALUE, Integer.MAX_VALUE};
        for (int fuel : badFuel) {
            dueTrouble(maker, "run with fuel " + fuel, maker.run(0, 0, 0, 0, fuel), 2);
        }
        dueTrouble(maker, "ran(0)", maker.ran(0), 5);
        Check.due("run", maker.run(0, 0, 0, 0, 1), 0);
        Check.due("trouble()", maker.trouble(), 0);
        int[] badWhat = {-1, 6, Integer.MIN_VALUE, Integer.MAX_VALUE};
        for (int what : badWhat) {
            dueTrouble(maker, "ran(" + what + ")", maker.ran(what), 2);
        }
        int[] badPlace = {-1, 8, Integer.MIN_VALUE, Integer.MAX_VALUE};
        for (int k : badPlace) {
            dueTrouble(maker, "place(" + k + ")", maker.place(k), 2);
        }
        Check.due("place(7)", maker.place(7), 0);
        Check.due("trouble()", maker.trouble(), 0);
    }

    private static void refusedRunLeavesTheLatest() {
        LessonMaker maker = Check.withProgram("def aa(a){say a;b=a;return a+1}");
        maker.run(0, 5, 0, 0, 10);
        maker.run(1, 6, 0, 0, 10);
        maker.run(0, 7, 0, 0, 0);
        maker.wrong(0, 0, 8, 0, 0);
        maker.unlike(0, 9, 0, 0);
        maker.tell(0, 10, 0, 0);
        Check.due("ran(0)", maker.ran(0), 6);
        Check.due("said(0)", maker.said(0), 5);
        Check.due("place(1)", maker.place(1), 5);
        Check.due("trace(1, 3)", maker.trace(1, 3), 5);
        Check.due("covered(0)", maker.covered(0), 1);
    }
}
