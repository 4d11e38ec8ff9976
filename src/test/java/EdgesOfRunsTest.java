/**
 * The boundary cases that the document names of runs: Terms I and III, and promises 9 to 16. Each
 * method is of the sentence that it begins with, and stands alone for it.
 */
final class EdgesOfRunsTest {
    private static final int MAX = Integer.MAX_VALUE;
    private static final int MIN = Integer.MIN_VALUE;
    private static final String ALL_PLACES = "say a;say b;say c;say d;say e;say f;say g;say h";

    public static void main(String[] args) {
        places8();
        fuel1To2000();
        calls8();
        saidKept();
        traceKept();
        numbersGoRound();
        testsOfInts();
        upTo3Numbers();
        otherPlaces();
        numbersOfNoMatter();
        steps();
        blocksDone();
        returns();
        comesToItsEnd();
        fuelEnds();
        deepEnds();
        fuelOrDeep();
        values();
        traces();
        tracesEachTime();
        tracesCut();
        covers();
        wrongLess();
        wrongTake();
        wrongWhile();
        wrongTimes();
        runRefused();
        ranOfTheLatest();
        ranRefused();
        saidBeyond();
        traceBeyond();
        tracePlaces();
        coveredNone();
        placeAtTheEnd();
        placeRefused();
        wrongFuel();
        wrongStays();
        wrongRefused();
        unlikeParts();
        unlikeKept();
        unlikeFuel();
        unlikeRefused();
        Check.end();
    }

    private static void dueRan(LessonMaker maker, String what, int... want) {
        for (int i = 0; i < want.length; i++) {
            Check.due("ran(" + i + ") of " + what, maker.ran(i), want[i]);
        }
    }

    private static void dueSaid(LessonMaker maker, String what, int... want) {
        Check.due("SAID of " + what, maker.ran(2), want.length);
        for (int i = 0; i < want.length && i < maker.ran(2); i++) {
            Check.due("said(" + i + ") of " + what, maker.said(i), want[i]);
        }
    }

    private static void dueTrace(LessonMaker maker, int i, int... want) {
        for (int what = 0; what < want.length; what++) {
            Check.due("trace(" + i + ", " + what + ")", maker.trace(i, what), want[what]);
        }
    }

    private static void dueValue(String text, int value, int x, int y) {
        LessonMaker maker = Check.withProgram(text);
        Check.due("END of " + text, maker.run(0, x, y, 0, 2000), 0);
        Check.due("VALUE of " + text + " with " + x + ", " + y, maker.ran(0), value);
    }

    // ---- Terms I

    private static void places8() {
        Check.sentence("PLACES 8 (a .. h) of each call");
        LessonMaker maker = Check.withProgram("def aa(){a=1;b=2;c=3;d=4;e=5;f=6;g=7;h=8;a=a+bb();" + ALL_PLACES
                + "}def bb(){" + ALL_PLACES + ";a=91;b=92;c=93;d=94;e=95;f=96;g=97;h=98}");
        Check.due("run", maker.run(0, 0, 0, 0, 2000), 0);
        dueSaid(maker, "two calls", 0, 0, 0, 0, 0, 0, 0, 0, 1, 2, 3, 4, 5, 6, 7, 8);
        for (int k = 0; k < 8; k++) {
            Check.due("place(" + k + ")", maker.place(k), k + 1);
        }
        Check.dueRefused("place(8)", maker, maker.place(8), 2);
        // the deepest calls have all eight, too
        maker = Check.withProgram("def aa(a){h=a*10;if a<8{b=aa(a+1)};say a;say b;say h;return h}");
        Check.due("run", maker.run(0, 1, 0, 0, 2000), 0);
        dueSaid(maker, "eight calls", 8, 0, 80, 7, 80, 70, 6, 70, 60, 5, 60, 50, 4, 50, 40, 3, 40, 30, 2, 30, 20,
                1, 20, 10);
    }

    private static void fuel1To2000() {
        Check.sentence("FUEL 1 .. 2,000 STEPS");
        LessonMaker maker = Check.withProgram("def aa(){while 1=1{a=a+1}}");
        int[] fine = {1, 2, 1999, 2000};
        for (int fuel : fine) {
            Check.dueTaken("run with FUEL " + fuel, maker, maker.run(0, 0, 0, 0, fuel), 1);
            Check.due("ran(1)", maker.ran(1), fuel);
        }
        int[] bad = {0, -1, 2001, 2002, MIN, MAX, -2000};
        for (int fuel : bad) {
            Check.dueRefused("run with FUEL " + fuel, maker, maker.run(0, 0, 0, 0, fuel), 2);
        }
    }

    private static void calls8() {
        Check.sentence("calls at most 8 within one another");
        LessonMaker maker = Check.withProgram("def aa(a){if a=1{return 1};return 1+aa(a-1)}");
        Check.due("run of 1", maker.run(0, 1, 0, 0, 2000), 0);
        Check.due("ran(5)", maker.ran(5), 1);
        Check.due("run of 8", maker.run(0, 8, 0, 0, 2000), 0);
        Check.due("ran(0)", maker.ran(0), 8);
        Check.due("ran(5)", maker.ran(5), 8);
        Check.due("run of 9", maker.run(0, 9, 0, 0, 2000), 2);
        Check.due("ran(5)", maker.ran(5), 8);
        // calls that stand beside one another, or in one another's ( ), are not within one another
        maker = Check.withProgram("def aa(){return " + Check.times("bb(1)+", 19) + "bb(1)}def bb(a){return a}");
        Check.due("run", maker.run(0, 0, 0, 0, 2000), 0);
        dueRan(maker, "beside", 20, 21, 0, 21, 2, 2);
        maker = Check.withProgram("def aa(a){return bb(bb(bb(bb(bb(bb(1))))))}def bb(a){return a+1}");
        Check.due("run", maker.run(0, 0, 0, 0, 2000), 0);
        dueRan(maker, "in ( )", 7, 7, 0, 7, 2, 2);
        // as many numbers as can be wait for each of the eight
        maker = Check.withProgram("def aa(a,b,c){if a=0{return c};return 1+2*bb(3,4,1+2*bb(3,4,1+2*bb(3,4,1+2*bb(3,4,"
                + "1+2*bb(3,4,1+2*aa(a-1,b,c+1))))))}def bb(a,b,c){return a+b+c}");
        Check.due("run", maker.run(0, 7, 0, 5, 2000), 0);
        Check.due("ran(0)", maker.ran(0), waiting(7, 5));
        Check.due("ran(5)", maker.ran(5), 8);
    }

    private static int waiting(int a, int c) {
        if (a == 0) {
            return c;
        }
        int sum = 1 + 2 * waiting(a - 1, c + 1);
        for (int i = 0; i < 5; i++) {
            sum = 1 + 2 * (3 + 4 + sum);
        }
        return sum;
    }

    private static void saidKept() {
        Check.sentence("SAID 60 and TRACE 400 are kept (further ones are counted alone)");
        LessonMaker maker = Check.withProgram("def aa(a){while b<a{b=b+1;say b}}");
        int[] many = {59, 60, 61, 600};
        for (int n : many) {
            maker.run(0, n, 0, 0, 2000);
            Check.due("ran(2) of " + n, maker.ran(2), n);
            Check.due("said(58) of " + n, maker.said(58), 59);
            if (n > 59) {
                Check.due("said(59) of " + n, maker.said(59), 60);
            } else {
                Check.dueNoSuch("said(59) of " + n, () -> maker.said(59));
            }
            Check.dueNoSuch("said(60) of " + n, () -> maker.said(60));
        }
    }

    private static void traceKept() {
        Check.sentence("SAID 60 and TRACE 400 are kept (further ones are counted alone)");
        // 2 n + 2 LINES do something
        LessonMaker maker = Check.withProgram("def aa(a){c=1;while b<a{b=b+1}}");
        int[] numbers = {198, 199, 200, 999};
        for (int n : numbers) {
            maker.run(0, n, 0, 0, 2000);
            Check.due("ran(3) of " + n, maker.ran(3), 2 * n + 2);
            Check.due("trace(397, 0)", maker.trace(397, 0), 1);
            if (n > 198) {
                Check.due("trace(399, 0)", maker.trace(399, 0), 1);
                Check.due("trace(399, 3)", maker.trace(399, 3), n > 199 ? 1 : 0);
                Check.due("trace(398, 3)", maker.trace(398, 3), 199);
            } else {
                Check.dueNoSuch("trace(398, 0) of " + n, () -> maker.trace(398, 0));
                Check.dueNoSuch("trace(399, 0) of " + n, () -> maker.trace(399, 0));
            }
            Check.dueNoSuch("trace(400, 0) of " + n, () -> maker.trace(400, 0));
            Check.dueNoSuch("trace(401, 0) of " + n, () -> maker.trace(401, 0));
        }
    }

    private static void numbersGoRound() {
        Check.sentence("Numbers are ints; sums go round.");
        dueValue("def aa(a,b){return a+b}", MIN, MAX, 1);
        dueValue("def aa(a,b){return a+b}", 0, MIN, MIN);
        dueValue("def aa(a,b){return a-b}", MAX, MIN, 1);
        dueValue("def aa(a,b){return a-b}", MIN, 0, MIN);
        dueValue("def aa(a,b){return a*b}", -2, MAX, 2);
        dueValue("def aa(a,b){return a*b}", MIN, MIN, -1);
        dueValue("def aa(a,b){return a*b}", 1, MAX, MAX);
        dueValue("def aa(){return 99999*99999}", 1409865409, 0, 0);
        dueValue("def aa(){return 65536*65536}", 0, 0, 0);
        dueValue("def aa(a){return a}", MIN, MIN, 0);
        dueValue("def aa(a){return a}", MAX, MAX, 0);
    }

    private static void testsOfInts() {
        Check.sentence("Numbers are ints; sums go round.");
        String text = "def aa(a,b){if a<b{c=c+1};if a>b{c=c+2};if a=b{c=c+4};return c}";
        dueValue(text, 1, MIN, MAX);
        dueValue(text, 2, MAX, MIN);
        dueValue(text, 4, MIN, MIN);
        dueValue(text, 4, MAX, MAX);
        dueValue(text, 2, 0, MIN);
        dueValue(text, 1, -1, 0);
        dueValue(text, 1, MIN, 1);
        dueValue("def aa(a){if a+1<a{return 1}}", 1, MAX, 0);
        dueValue("def aa(a){if a-1>a{return 1}}", 1, MIN, 0);
    }

    // ---- Terms III

    private static void upTo3Numbers() {
        Check.sentence("A RUN: a FUNCTION is called with up to 3 numbers (it must have just as many PLACES)");
        String[] heads = {"", "a", "a,b", "a,b,c"};
        int[] want = {0, 700, 780, 789};
        for (int n = 0; n < heads.length; n++) {
            LessonMaker maker = Check.withProgram("def aa(" + heads[n] + "){return a*100+b*10+c}");
            Check.dueTaken("run of " + n + " PLACES", maker, maker.run(0, 7, 8, 9, 1), 0);
            Check.due("VALUE of " + n + " PLACES", maker.ran(0), want[n]);
            Check.due("wrong() of " + n + " PLACES", maker.wrong(0, 0, 7, 8, 9), want[n]);
        }
        // the numbers come in the order of the PLACES in ( ), not of their letters
        LessonMaker maker = Check.withProgram("def aa(c,a,b){return a*100+b*10+c}def bb(){return aa(7,8,9)}");
        maker.run(0, 7, 8, 9, 1);
        Check.due("VALUE", maker.ran(0), 897);
        maker.run(1, 0, 0, 0, 2);
        Check.due("VALUE of a call", maker.ran(0), 897);
    }

    private static void otherPlaces() {
        Check.sentence("all other PLACES are 0");
        String[] heads = {"", "h", "c,a", "h,g,f"};
        int[][] want = {{0, 0, 0, 0, 0, 0, 0, 0}, {0, 0, 0, 0, 0, 0, 0, 7}, {8, 0, 7, 0, 0, 0, 0, 0},
            {0, 0, 0, 0, 0, 9, 8, 7}};
        for (int i = 0; i < heads.length; i++) {
            LessonMaker maker = Check.withProgram("def aa(" + heads[i] + "){" + ALL_PLACES
                    + ";a=1;b=1;c=1;d=1;e=1;f=1;g=1;h=1}");
            for (int turn = 0; turn < 2; turn++) {
                Check.due("run", maker.run(0, 7, 8, 9, 2000), 0);
                dueSaid(maker, heads[i], want[i]);
            }
        }
        // a second call begins anew
        LessonMaker maker = Check.withProgram("def aa(){say bb(1);say bb(2);say bb(3)}"
                + "def bb(c){a=a+c;b=b+1;return a*10+b}");
        Check.due("run", maker.run(0, 0, 0, 0, 2000), 0);
        dueSaid(maker, "three calls", 11, 21, 31);
    }

    private static void numbersOfNoMatter() {
        Check.sentence("(numbers that the FUNCTION has no PLACES for are of no matter)");
        String text = "def aa(){while b<3{b=b+1;say a-1};return a+b+c}def bb(a){return a-1}def cc(a,b){return a-b*2}";
        LessonMaker plain = Check.withProgram(text);
        LessonMaker maker = Check.withProgram(text);
        int[] far = {MIN, MAX, -1, 1, 77};
        for (int n : far) {
            Check.due("run of aa", maker.run(0, n, n, n, 2000), plain.run(0, 0, 0, 0, 2000));
            Check.due("VALUE of aa", maker.ran(0), plain.ran(0));
            Check.due("run of bb", maker.run(1, 5, n, n, 2000), 0);
            Check.due("VALUE of bb", maker.ran(0), 4);
            Check.due("run of cc", maker.run(2, 5, 6, n, 2000), 0);
            Check.due("VALUE of cc", maker.ran(0), -7);
            for (int rule = 0; rule < 4; rule++) {
                Check.due("wrong", maker.wrong(rule, 0, n, n, n), plain.wrong(rule, 0, 0, 0, 0));
                Check.due("wrong", maker.wrong(rule, 1, 5, n, n), plain.wrong(rule, 1, 5, 0, 0));
            }
            Check.due("unlike", maker.unlike(0, n, n, n), 3);
            Check.due("unlike", maker.unlike(2, 5, 6, n), 2);
        }
        Check.due("tell", maker.tell(0, MIN, MAX, MIN), 0);
        Check.due("shown", maker.shown(), 4);
    }

    private static void steps() {
        Check.sentence("A STEP: each LINE begun, and each further time that a while asks its TEST.");
        LessonMaker maker = Check.withProgram("def aa(a){while b<a{b=b+1}}");
        for (int n = 0; n < 5; n++) {
            maker.run(0, n, 0, 0, 2000);
            Check.due("STEPS of a while that holds " + n + " times", maker.ran(1), 1 + 2 * n);
        }
        maker = Check.withProgram("def aa(a){if a=1{b=1;c=1}else{d=1}}");
        maker.run(0, 1, 0, 0, 2000);
        Check.due("STEPS of an if that holds", maker.ran(1), 3);
        maker.run(0, 0, 0, 0, 2000);
        Check.due("STEPS of an else", maker.ran(1), 2);
        maker = Check.withProgram("def aa(a){if a=1{b=1}}");
        maker.run(0, 0, 0, 0, 2000);
        Check.due("STEPS of an if that doesn't hold", maker.ran(1), 1);
        maker = Check.withProgram("def aa(){return 1;say 2}");
        maker.run(0, 0, 0, 0, 2000);
        Check.due("STEPS of a return", maker.ran(1), 1);
        // a while that comes again is a LINE begun, and so are the LINES of a call
        maker = Check.withProgram("def aa(){while a<2{a=a+1;while 1=2{b=1};c=bb()}}def bb(){a=1;return a}");
        maker.run(0, 0, 0, 0, 2000);
        Check.due("STEPS of all these", maker.ran(1), 1 + 2 * (1 + 1 + 1 + 2) + 2);
    }

    private static void blocksDone() {
        Check.sentence("An if, while does its BLOCK if its TEST holds (while: again and again).");
        LessonMaker maker = Check.withProgram("def aa(a,b){if a<b{say 1}else{say 2};while a<b{a=a+1;say 3};say 4}");
        maker.run(0, 0, 0, 0, 2000);
        dueSaid(maker, "alike", 2, 4);
        maker.run(0, 0, 1, 0, 2000);
        dueSaid(maker, "once", 1, 3, 4);
        maker.run(0, 0, 3, 0, 2000);
        dueSaid(maker, "thrice", 1, 3, 3, 3, 4);
        maker.run(0, 1, 0, 0, 2000);
        dueSaid(maker, "more", 2, 4);
        maker = Check.withProgram("def aa(a){if a=1{if a=2{say 1}else{say 2}};if a=2{if a=1{say 3}}else{say 4}}");
        maker.run(0, 1, 0, 0, 2000);
        dueSaid(maker, "an else of the inner one", 2, 4);
        maker.run(0, 2, 0, 0, 2000);
        dueSaid(maker, "none of the outer one's", new int[0]);
    }

    private static void returns() {
        Check.sentence("return ends the call with its value");
        LessonMaker maker = Check.withProgram("def aa(){while 1=1{while 1=1{if 1=1{a=7;return bb()*10+a;say 1}}};say 2}"
                + "def bb(){while 1=1{a=a+1;if a=3{return a}};say 3}");
        Check.due("run", maker.run(0, 0, 0, 0, 2000), 0);
        Check.due("ran(0)", maker.ran(0), 37);
        Check.due("ran(2)", maker.ran(2), 0);
        dueValue("def aa(a){return a;return 5}", -1, -1, 0);
        dueValue("def aa(a){return 0}", 0, -1, 0);
    }

    private static void comesToItsEnd() {
        Check.sentence("a call that comes to its end is 0");
        dueValue("def aa(a){a=5}", 0, 9, 0);
        dueValue("def aa(a){if a=1{return 5}}", 0, 2, 0);
        dueValue("def aa(a){if a=1{return 5}}", 5, 1, 0);
        dueValue("def aa(a){return bb(a)+1}def bb(a){a=9;say a}", 1, 9, 0);
        dueValue("def aa(a){while a>0{a=a-1;if a=100{return 1}}}", 0, 9, 0);
    }

    private static void fuelEnds() {
        Check.sentence("1 FUEL: a STEP more than there are");
        LessonMaker maker = Check.withProgram("def aa(){a=1;say bb();while c<2{c=c+1};return 9}def bb(){return 4}");
        int all = 9;
        Check.due("FUEL for all", maker.run(0, 0, 0, 0, all), 0);
        dueRan(maker, "all", 9, all, 1, all, 6, 2);
        for (int fuel = 1; fuel < all; fuel++) {
            Check.due("FUEL " + fuel, maker.run(0, 0, 0, 0, fuel), 1);
            dueRan(maker, "FUEL " + fuel, 0, fuel);
        }
        // the further TEST of a while needs one
        maker = Check.withProgram("def aa(){while a<1{a=1}}");
        Check.due("FUEL 2", maker.run(0, 0, 0, 0, 2), 1);
        Check.due("FUEL 3", maker.run(0, 0, 0, 0, 3), 0);
        // an end of a call needs none
        maker = Check.withProgram("def aa(){a=bb()}def bb(){b=1}");
        Check.due("FUEL 2", maker.run(0, 0, 0, 0, 2), 0);
        // 2,000 of them
        maker = Check.withProgram("def aa(a){while b<a{b=b+1};c=1;return 7}def bb(a){while b<a{b=b+1};return 7}");
        Check.due("2,000 STEPS", maker.run(1, 999, 0, 0, 2000), 0);
        dueRan(maker, "2,000 STEPS", 7, 2000);
        Check.due("2,001 STEPS", maker.run(0, 999, 0, 0, 2000), 1);
        dueRan(maker, "2,001 STEPS", 0, 2000);
        Check.due("2,000 STEPS by FUEL 1,999", maker.run(1, 999, 0, 0, 1999), 1);
    }

    private static void deepEnds() {
        Check.sentence("2 DEEP: a call more than 8 within one another (the first one counted)");
        String chain = "def aa(a){if a>1{say a;return aa(a-1)*2};return 1}";
        LessonMaker maker = Check.withProgram(chain);
        int value = 1;
        for (int n = 1; n <= 8; n++) {
            Check.due("run of " + n, maker.run(0, n, 0, 0, 2000), 0);
            dueRan(maker, "" + n, value, 3 * n - 1, n - 1, 3 * n - 1);
            Check.due("ran(5) of " + n, maker.ran(5), n);
            value = value * 2;
        }
        for (int n = 9; n <= 11; n++) {
            Check.due("run of " + n, maker.run(0, n, 0, 0, 2000), 2);
            dueRan(maker, "" + n, 0, 24, 8, 16, 3, 8);
        }
        // by different FUNCTIONS, eight and nine of them
        StringBuilder text = new StringBuilder();
        for (char c = 'a'; c < 'i'; c++) {
            text.append("def f").append(c).append("(){say 1;return f").append((char) (c + 1)).append("()}");
        }
        text.append("def fi(){return 5}");
        maker = Check.withProgram(text.toString());
        Check.due("nine", maker.run(0, 0, 0, 0, 2000), 2);
        dueRan(maker, "nine", 0, 16, 8, 8, 16, 8);
        Check.due("eight", maker.run(1, 0, 0, 0, 2000), 0);
        dueRan(maker, "eight", 5, 15, 7, 15, 15, 8);
        // the eighth aa can't call bb any more, though each call of bb came back
        maker = Check.withProgram("def aa(a){return aa(bb(a))}def bb(a){say a;return a+1}");
        Check.due("calls in ( )", maker.run(0, 1, 0, 0, 2000), 2);
        dueSaid(maker, "calls in ( )", 1, 2, 3, 4, 5, 6, 7);
    }

    private static void fuelOrDeep() {
        Check.sentence("ENDS: 0 it came back; 1 FUEL");
        LessonMaker maker = Check.withProgram("def aa(){return aa()}");
        Check.due("the ninth call is met ahead of its STEP", maker.run(0, 0, 0, 0, 8), 2);
        dueRan(maker, "FUEL 8", 0, 8, 0, 0, 1, 8);
        Check.due("the eighth call's STEP", maker.run(0, 0, 0, 0, 7), 1);
        dueRan(maker, "FUEL 7", 0, 7, 0, 0, 1, 8);
        Check.due("the seventh call's STEP", maker.run(0, 0, 0, 0, 6), 1);
        dueRan(maker, "FUEL 6", 0, 6, 0, 0, 1, 7);
        Check.due("the second call's STEP", maker.run(0, 0, 0, 0, 1), 1);
        dueRan(maker, "FUEL 1", 0, 1, 0, 0, 1, 2);
    }

    private static void values() {
        Check.sentence("VALUE: what came back (0 by 1, 2)");
        LessonMaker maker = Check.withProgram("def aa(a){if a=1{return 0-1};b=5;return bb(a)}"
                + "def bb(a){if a=2{return 8};return bb(a)}");
        Check.due("END", maker.run(0, 1, 0, 0, 2000), 0);
        Check.due("VALUE", maker.ran(0), -1);
        Check.due("END", maker.run(0, 2, 0, 0, 2000), 0);
        Check.due("VALUE", maker.ran(0), 8);
        Check.due("END", maker.run(0, 2, 0, 0, 4), 1);
        Check.due("VALUE", maker.ran(0), 0);
        Check.due("END", maker.run(0, 3, 0, 0, 2000), 2);
        Check.due("VALUE", maker.ran(0), 0);
    }

    private static void traces() {
        Check.sentence("TRACE: each LINE that did something, as it did it");
        LessonMaker maker = Check.withProgram("def aa(a){a=a+bb(a);a=a;while a>12{a=a-1};if a=3{say 1}else{say a*2};"
                + "return 0-a;say 9}def bb(a){h=a;return h+1}");
        Check.due("run", maker.run(0, 6, 0, 0, 2000), 0);
        Check.due("ran(3)", maker.ran(3), 10);
        dueTrace(maker, 0, 9, 7, 0, 6);
        dueTrace(maker, 1, 10, -1, 0, 7);
        dueTrace(maker, 2, 0, 0, 6, 13);
        dueTrace(maker, 3, 1, 0, 13, 13);
        dueTrace(maker, 4, 2, -1, 0, 1);
        dueTrace(maker, 5, 3, 0, 13, 12);
        dueTrace(maker, 6, 2, -1, 0, 0);
        dueTrace(maker, 7, 4, -1, 0, 0);
        dueTrace(maker, 8, 6, -1, 0, 24);
        dueTrace(maker, 9, 7, -1, 0, -12);
    }

    private static void tracesEachTime() {
        Check.sentence("say, return: what it was; if, while each time: 1 or 0");
        LessonMaker maker = Check.withProgram("def aa(a){while a<3{if a=1{say 0}else{say a*5};a=a+1};return a*5}");
        maker.run(0, 0, 0, 0, 2000);
        int[] lines = {0, 1, 3, 4, 0, 1, 2, 4, 0, 1, 3, 4, 0, 5};
        int[] thens = {1, 0, 0, 1, 1, 1, 0, 2, 1, 0, 10, 3, 0, 15};
        Check.due("ran(3)", maker.ran(3), lines.length);
        for (int i = 0; i < lines.length; i++) {
            Check.due("trace(" + i + ", 0)", maker.trace(i, 0), lines[i]);
            Check.due("trace(" + i + ", 3)", maker.trace(i, 3), thens[i]);
        }
        maker.run(0, 3, 0, 0, 2000);
        Check.due("ran(3), it never holds", maker.ran(3), 2);
        dueTrace(maker, 0, 0, -1, 0, 0);
        dueTrace(maker, 1, 5, -1, 0, 15);
    }

    private static void tracesCut() {
        Check.sentence("TRACE: each LINE that did something, as it did it");
        LessonMaker maker = Check.withProgram("def aa(){a=3;a=bb()}def bb(){say 4;if 1=1{return bb()}}");
        Check.due("by FUEL", maker.run(0, 0, 0, 0, 3), 1);
        dueRan(maker, "by FUEL", 0, 3, 1, 2, 3, 2);
        dueTrace(maker, 0, 0, 0, 0, 3);
        dueTrace(maker, 1, 2, -1, 0, 4);
        Check.dueNoSuch("trace(2, 0)", () -> maker.trace(2, 0));
        Check.due("place(0): the second LINE did nothing", maker.place(0), 3);
        Check.due("DEEP", maker.run(0, 0, 0, 0, 2000), 2);
        dueRan(maker, "DEEP", 0, 2 + 7 * 3, 7, 1 + 7 * 2, 5, 8);
    }

    private static void covers() {
        Check.sentence("COVERED: LINES that were begun.");
        LessonMaker maker = Check.withProgram("def aa(a){if a=1{say 1}else{say bb()};return 2}def bb(){return bb()}");
        int[][] want = {{1, 1, 0, 1, 0}, {1, 0, 1, 0, 1}};
        int[] numbers = {1, 0};
        for (int i = 0; i < 2; i++) {
            maker.run(0, numbers[i], 0, 0, 2000);
            for (int l = 0; l < 5; l++) {
                Check.due("covered(" + l + ") of " + numbers[i], maker.covered(l), want[i][l]);
            }
            Check.due("ran(4) of " + numbers[i], maker.ran(4), 3);
        }
        // a LINE without a STEP for it is not begun
        maker.run(0, 1, 0, 0, 2);
        Check.due("covered(1)", maker.covered(1), 1);
        Check.due("covered(3)", maker.covered(3), 0);
        Check.due("ran(4)", maker.ran(4), 2);
    }

    private static void dueWrong(String text, int x, int y, int... want) {
        LessonMaker maker = Check.withProgram(text);
        for (int rule = 0; rule < want.length; rule++) {
            Check.dueTaken("wrong(" + rule + ") of " + text + " with " + x + ", " + y, maker,
                    maker.wrong(rule, 0, x, y, 0), want[rule]);
        }
    }

    private static void wrongLess() {
        Check.sentence("0: < holds also of two alike");
        String text = "def aa(a,b){if a<b{return 1};return 2}";
        dueWrong(text, 4, 5, 1, 1, 1, 1);
        dueWrong(text, 5, 5, 1, 2, 2, 2);
        dueWrong(text, 6, 5, 2, 2, 2, 2);
        dueWrong(text, MIN, MIN, 1, 2, 2, 2);
        dueWrong(text, MAX, MAX, 1, 2, 2, 2);
        dueWrong(text, MAX, MIN, 2, 2, 2, 2);
        dueWrong("def aa(a,b){if a>b{return 1};return 2}", 5, 5, 2, 2, 2, 2);
        dueWrong("def aa(a,b){while a<b{a=a+1};return a}", 5, 5, 6, 5, 5, 5);
    }

    private static void wrongTake() {
        Check.sentence("1: - takes the first from the second");
        dueWrong("def aa(a,b){return a-b}", 7, 5, 2, -2, 2, 2);
        dueWrong("def aa(a,b){return a-b}", 5, 5, 0, 0, 0, 0);
        dueWrong("def aa(a,b){return a-b}", 0, MIN, MIN, MIN, MIN, MIN);
        dueWrong("def aa(a,b){return a-b}", 1, MIN, MIN + 1, MAX, MIN + 1, MIN + 1);
        dueWrong("def aa(a,b){return a-b-1-2}", 7, 4, 0, -2, 0, 0);
        dueWrong("def aa(a,b){return a+b-1*3}", 7, 5, 9, -9, 9, 8);
    }

    private static void wrongWhile() {
        Check.sentence("2: a while does its BLOCK once at most");
        String text = "def aa(a,b){while a<b{a=a+1;c=c+1};return c}";
        dueWrong(text, 5, 4, 0, 0, 0, 0);
        dueWrong(text, 5, 5, 1, 0, 0, 0);
        dueWrong(text, 4, 5, 2, 1, 1, 1);
        dueWrong(text, 3, 5, 3, 2, 1, 2);
        // once for each time that it is begun
        dueWrong("def aa(a,b){return bb(a)+bb(a)+bb(a)}def bb(a){while a>0{a=a-1;b=b+1};return b}", 5, 0, 15, 3, 3, 15);
    }

    private static void wrongTimes() {
        Check.sentence("3: * is done like + (by what both are)");
        dueWrong("def aa(a,b){return a*b}", 7, 5, 35, 35, 35, 12);
        dueWrong("def aa(a,b){return a*b}", 2, 2, 4, 4, 4, 4);
        dueWrong("def aa(a,b){return a*b}", 0, 0, 0, 0, 0, 0);
        dueWrong("def aa(a,b){return a*b}", MAX, 1, MAX, MAX, MAX, MIN);
        dueWrong("def aa(a,b){return 9-a*b}", 7, 5, -26, 26, -26, -3);
        dueWrong("def aa(a,b){return 9*(a-b)*2}", 7, 5, 36, -36, 36, 13);
    }

    // ---- promises

    private static void runRefused() {
        Check.sentence("A RUN of a FUNCTION with FUEL: its END. NONE: 1; 2.");
        LessonMaker maker = Check.withProgram("def aa(a){say a;return a+1}def bb(){a=1}");
        Check.dueTaken("run(1, ..)", maker, maker.run(1, 0, 0, 0, 1), 0);
        Check.dueTaken("run(0, ..)", maker, maker.run(0, 4, 0, 0, 2), 0);
        int[] bad = {-1, 2, 3, 10, 32, MIN, MAX};
        for (int f : bad) {
            Check.dueRefused("run(" + f + ", ..)", maker, maker.run(f, 9, 0, 0, 1), 1);
            Check.dueRefused("run(" + f + ", ..) and FUEL 0", maker, maker.run(f, 9, 0, 0, 0), 1);
            Check.dueRefused("run(" + f + ", ..) and FUEL 2001", maker, maker.run(f, 9, 0, 0, 2001), 1);
        }
        Check.dueRefused("FUEL 0", maker, maker.run(0, 9, 0, 0, 0), 2);
        Check.dueRefused("FUEL 2001", maker, maker.run(0, 9, 0, 0, 2001), 2);
        // the latest run() is still the one that was not refused
        Check.due("ran(0)", maker.ran(0), 5);
        Check.due("said(0)", maker.said(0), 4);
        Check.due("place(0)", maker.place(0), 4);
    }

    private static void ranOfTheLatest() {
        Check.sentence("Of the latest run() what 0 VALUE, 1 STEPS, 2 SAID, 3 TRACE's length, "
                + "4 how many LINES are COVERED, 5 the most calls within one another");
        LessonMaker maker = Check.withProgram("def aa(a){if a=0{return 4};say a;b=aa(a-1);return b+a}def bb(){a=1}");
        maker.run(0, 2, 0, 0, 2000);
        dueRan(maker, "three calls", 7, 10, 2, 10, 5, 3);
        maker.run(0, 9, 0, 0, 2000);
        dueRan(maker, "DEEP", 0, 24, 8, 16, 3, 8);
        maker.run(0, 9, 0, 0, 1);
        dueRan(maker, "FUEL", 0, 1, 0, 1, 1, 1);
        maker.run(1, 0, 0, 0, 1);
        dueRan(maker, "the least", 0, 1, 0, 1, 1, 1);
        Check.due("covered(0): an older run's", maker.covered(0), 0);
        Check.due("covered(5)", maker.covered(5), 1);
    }

    private static void ranRefused() {
        Check.sentence("5 the most calls within one another. NONE: 5; 2.");
        LessonMaker maker = Check.withProgram("def aa(a){say a;return a+1}");
        int[] all = {-1, 0, 1, 2, 3, 4, 5, 6, MIN, MAX};
        for (int what : all) {
            Check.dueRefused("ran(" + what + "), nothing was run", maker, maker.ran(what), 5);
        }
        maker.run(5, 0, 0, 0, 1);
        Check.dueRefused("ran(0), the run was refused", maker, maker.ran(0), 5);
        maker.run(0, 4, 0, 0, 9);
        int[] want = {5, 2, 1, 2, 2, 1};
        for (int what : all) {
            if (what >= 0 && what < 6) {
                Check.dueTaken("ran(" + what + ")", maker, maker.ran(what), want[what]);
            } else {
                Check.dueRefused("ran(" + what + ")", maker, maker.ran(what), 2);
            }
        }
    }

    private static void saidBeyond() {
        Check.sentence("SAID i of the latest run(). NoSuchElementException if there is none such (also beyond 60).");
        LessonMaker maker = Check.withProgram("def aa(a){while b<a{b=b+1;say 0-b}}");
        Check.dueNoSuch("said(0), nothing was run", () -> maker.said(0));
        maker.run(0, 0, 0, 0, 2000);
        Check.dueNoSuch("said(0), nothing was said", () -> maker.said(0));
        maker.run(0, 100, 0, 0, 2000);
        Check.due("ran(2)", maker.ran(2), 100);
        Check.due("said(0)", maker.said(0), -1);
        Check.due("said(59)", maker.said(59), -60);
        Check.dueNoSuch("said(60)", () -> maker.said(60));
        Check.dueNoSuch("said(99)", () -> maker.said(99));
        maker.run(0, 1, 0, 0, 2000);
        Check.due("said(0)", maker.said(0), -1);
        Check.dueNoSuch("said(1): an older run's", () -> maker.said(1));
        Check.dueNoSuch("said(-1)", () -> maker.said(-1));
        for (int far : Check.FAR) {
            Check.dueNoSuch("said(" + far + ")", () -> maker.said(far));
        }
    }

    private static void traceBeyond() {
        Check.sentence("NoSuchElementException if there is none such (also beyond 400)");
        LessonMaker maker = Check.withProgram("def aa(a){while b<a{b=b+1}}");
        Check.dueNoSuch("trace(0, 0), nothing was run", () -> maker.trace(0, 0));
        maker.run(0, 500, 0, 0, 2000);
        Check.due("ran(3)", maker.ran(3), 1001);
        dueTrace(maker, 399, 1, 1, 199, 200);
        for (int what = 0; what < 4; what++) {
            int part = what;
            Check.dueNoSuch("trace(400, " + what + ")", () -> maker.trace(400, part));
            Check.dueNoSuch("trace(1000, " + what + ")", () -> maker.trace(1000, part));
            Check.dueNoSuch("trace(-1, " + what + ")", () -> maker.trace(-1, part));
        }
        maker.run(0, 1, 0, 0, 2000);
        dueTrace(maker, 2, 0, -1, 0, 0);
        Check.dueNoSuch("trace(3, 0): an older run's", () -> maker.trace(3, 0));
        Check.dueNoSuch("trace(0, 4)", () -> maker.trace(0, 4));
        Check.dueNoSuch("trace(0, -1)", () -> maker.trace(0, -1));
        for (int far : Check.FAR) {
            Check.dueNoSuch("trace(" + far + ", 0)", () -> maker.trace(far, 0));
            Check.dueNoSuch("trace(0, " + far + ")", () -> maker.trace(0, far));
        }
    }

    private static void tracePlaces() {
        Check.sentence("1 the PLACE (NONE but for PLACE =), 2 what it was ahead (0 but for PLACE =), "
                + "3 what it is then (was said, came back, held)");
        LessonMaker maker = Check.withProgram("def aa(h,a){h=a;a=h-1;say h;if a=h{a=1};while a>h{a=1};return h}");
        maker.run(0, MIN, MAX, 0, 2000);
        dueTrace(maker, 0, 0, 7, MIN, MAX);
        dueTrace(maker, 1, 1, 0, MAX, MAX - 1);
        dueTrace(maker, 2, 2, -1, 0, MAX);
        dueTrace(maker, 3, 3, -1, 0, 0);
        dueTrace(maker, 4, 5, -1, 0, 0);
        dueTrace(maker, 5, 7, -1, 0, MAX);
        Check.due("ran(3)", maker.ran(3), 6);
    }

    private static void coveredNone() {
        Check.sentence("Whether the latest run() COVERED a LINE: 1, 0; NONE (no such LINE, nothing was run).");
        LessonMaker maker = Check.withProgram("def aa(){" + Check.times("a=1;", 31) + "if a=2{"
                + Check.times("a=1;", 26) + "a=1};return 1}");
        Check.due("covered(0), nothing was run", maker.covered(0), -1);
        Check.due("covered(60), nothing was run", maker.covered(60), -1);
        maker.run(0, 0, 0, 0, 2000);
        for (int l = 0; l < 60; l++) {
            Check.due("covered(" + l + ")", maker.covered(l), l < 32 || l == 59 ? 1 : 0);
        }
        Check.due("covered(60)", maker.covered(60), -1);
        Check.due("covered(64)", maker.covered(64), -1);
        Check.due("covered(-1)", maker.covered(-1), -1);
        for (int far : Check.FAR) {
            Check.due("covered(" + far + ")", maker.covered(far), -1);
        }
        Check.due("trouble() is the run's", maker.trouble(), 0);
        Check.program(maker, "def aa(){a=1}");
        Check.due("covered(0) of a new PROGRAM", maker.covered(0), -1);
    }

    private static void placeAtTheEnd() {
        Check.sentence("What PLACE k of the first call (of the FUNCTION that was run) was as the latest run() ended");
        LessonMaker maker = Check.withProgram("def aa(h){a=h+1;b=bb(a);c=3;return 9;c=4}"
                + "def bb(a){a=50;b=51;h=52;if a<0{a=1};return a}");
        maker.run(0, 6, 0, 0, 2000);
        int[] atReturn = {7, 50, 3, 0, 0, 0, 0, 6};
        // cut within bb: the first call's b and c are still 0
        int[] cut = {7, 0, 0, 0, 0, 0, 0, 6};
        for (int k = 0; k < 8; k++) {
            Check.due("place(" + k + ")", maker.place(k), atReturn[k]);
        }
        maker.run(0, 6, 0, 0, 5);
        for (int k = 0; k < 8; k++) {
            Check.due("place(" + k + ") as FUEL ended", maker.place(k), cut[k]);
        }
        LessonMaker deep = Check.withProgram("def aa(a){b=a*2;c=aa(a+1);d=1}");
        deep.run(0, 3, 0, 0, 2000);
        int[] first = {3, 6, 0, 0, 0, 0, 0, 0};
        for (int k = 0; k < 8; k++) {
            Check.due("place(" + k + ") by DEEP", deep.place(k), first[k]);
        }
    }

    private static void placeRefused() {
        Check.sentence("as the latest run() ended; NONE: 5; 2.");
        LessonMaker maker = Check.withProgram("def aa(a){h=a}");
        int[] all = {-1, 0, 7, 8, MIN, MAX};
        for (int k : all) {
            Check.dueRefused("place(" + k + "), nothing was run", maker, maker.place(k), 5);
        }
        maker.run(0, -1, 0, 0, 9);
        Check.dueTaken("place(0)", maker, maker.place(0), -1);
        Check.dueTaken("place(7)", maker, maker.place(7), -1);
        int[] bad = {-1, 8, 9, 64, MIN, MAX};
        for (int k : bad) {
            Check.dueRefused("place(" + k + ")", maker, maker.place(k), 2);
        }
    }

    private static void wrongFuel() {
        Check.sentence("VALUE of a RUN by a WRONG RULE (0 .. 3) with FUEL 2,000 (0 by ENDS 1, 2)");
        // by rules 1 and 3: 2 a + 2 STEPS; by rule 0 two more; by rule 2 three in all
        String text = "def aa(a){while b<a{b=b+1};return 7}";
        dueWrong(text, 997, 0, 7, 7, 7, 7);
        dueWrong(text, 998, 0, 7, 7, 7, 7);
        dueWrong(text, 999, 0, 0, 7, 7, 7);
        dueWrong(text, 1000, 0, 0, 0, 7, 0);
        // 2 a + 3: the 2,001st is one too many
        String odd = "def aa(a){c=1;while b<a{b=b+1};return 7}";
        dueWrong(odd, 997, 0, 7, 7, 7, 7);
        dueWrong(odd, 998, 0, 0, 7, 7, 7);
        dueWrong(odd, 999, 0, 0, 0, 7, 0);
        // a + 1 calls; by rule 0 one more, by rule 1 there is no end of them
        String deep = "def aa(a){if 0<a{return 1+aa(a+(0-1))};return 1}";
        LessonMaker maker = Check.withProgram(deep);
        Check.due("wrong(2) of eight", maker.wrong(2, 0, 7, 0, 0), 8);
        Check.due("wrong(2) of nine", maker.wrong(2, 0, 8, 0, 0), 0);
        Check.due("wrong(0) of nine", maker.wrong(0, 0, 7, 0, 0), 0);
        Check.due("wrong(0) of eight", maker.wrong(0, 0, 6, 0, 0), 8);
        Check.due("wrong(1) is DEEP", maker.wrong(1, 0, 1, 0, 0), 0);
        Check.due("wrong(1) of one", maker.wrong(1, 0, 0, 0, 0), 1);
    }

    private static void wrongStays() {
        Check.sentence("the latest run() stays");
        LessonMaker maker = Check.withProgram("def aa(a){b=a-1;say b;return a*b}def bb(){return bb()}");
        maker.wrong(0, 0, 9, 0, 0);
        Check.dueRefused("ran(0): wrong() is no run()", maker, maker.ran(0), 5);
        maker.run(0, 5, 0, 0, 9);
        for (int rule = 0; rule < 4; rule++) {
            maker.wrong(rule, 0, 9, 0, 0);
            maker.wrong(rule, 1, 9, 0, 0);
        }
        dueRan(maker, "the latest run()", 20, 3, 1, 3, 3, 1);
        Check.due("said(0)", maker.said(0), 4);
        dueTrace(maker, 0, 0, 1, 0, 4);
        Check.due("covered(0)", maker.covered(0), 1);
        Check.due("covered(3)", maker.covered(3), 0);
        Check.due("place(0)", maker.place(0), 5);
        Check.due("place(1)", maker.place(1), 4);
    }

    private static void wrongRefused() {
        Check.sentence("the latest run() stays. NONE: 1; 2.");
        LessonMaker maker = Check.withProgram("def aa(){return 0-1}");
        Check.dueTaken("a VALUE that is -1", maker, maker.wrong(0, 0, 0, 0, 0), -1);
        int[] badRules = {-1, 4, 5, MIN, MAX};
        int[] bad = {-1, 1, 10, MIN, MAX};
        for (int rule : badRules) {
            Check.dueRefused("wrong(" + rule + ", 0)", maker, maker.wrong(rule, 0, 0, 0, 0), 2);
            for (int f : bad) {
                Check.dueRefused("wrong(" + rule + ", " + f + ")", maker, maker.wrong(rule, f, 0, 0, 0), 1);
            }
        }
        for (int f : bad) {
            Check.dueRefused("wrong(3, " + f + ")", maker, maker.wrong(3, f, 0, 0, 0), 1);
        }
        Check.dueTaken("wrong(3, 0)", maker, maker.wrong(3, 0, 0, 0, 0), -1);
    }

    private static void dueUnlike(String text, int x, int want) {
        LessonMaker maker = Check.withProgram(text);
        Check.dueTaken("unlike of " + text + " with " + x, maker, maker.unlike(0, x, 0, 0), want);
    }

    private static void unlikeParts() {
        Check.sentence("By how many of the WRONG RULES the END, the VALUE, how many are SAID");
        dueUnlike("def aa(a){return a+1}", 5, 0);
        // the END alone, by rule 0
        dueUnlike("def aa(a){while a<5{b=1;a=5}}", 5, 1);
        dueUnlike("def aa(a){while a<5{b=1;a=5}}", 6, 0);
        // the VALUE alone, by each rule
        dueUnlike("def aa(a){if a<5{return 1}}", 5, 1);
        dueUnlike("def aa(a){return a-5}", 6, 1);
        dueUnlike("def aa(a){return a-5}", 5, 0);
        dueUnlike("def aa(a){while b+1=a{b=b+1};return b}", 1, 0);
        dueUnlike("def aa(a){while a>b{b=b+1};return b}", 1, 0);
        dueUnlike("def aa(a){while a>b{b=b+1};return b}", 2, 1);
        dueUnlike("def aa(a){return a*2}", 2, 0);
        dueUnlike("def aa(a){return a*2}", 3, 1);
        // how many are SAID alone
        dueUnlike("def aa(a){if a<5{say 1}}", 5, 1);
        dueUnlike("def aa(a){say 1;if a<5{say 1}}", 5, 1);
        // none, though LINES, STEPS and PLACES are others
        dueUnlike("def aa(a){if a<5{b=1;c=a-1*7}else{b=2}}", 5, 0);
        // all four
        dueUnlike("def aa(a){while a<8{a=a+1};return a*2-1}", 5, 4);
    }

    private static void unlikeKept() {
        Check.sentence("or one of those that are kept would be another one than by the true ones");
        dueUnlike("def aa(a){say a-1}", 5, 1);
        // both ways round to the same one
        dueUnlike("def aa(a){say a-1}", MIN + 1, 0);
        // SAID number b is another one by rule 3, if it is one of the 60; rule 2 says fewer
        String text = "def aa(a){while b<64{b=b+1;if b=a{say b*3}else{say 0}}}";
        dueUnlike(text, 1, 3);
        dueUnlike(text, 60, 3);
        dueUnlike(text, 61, 2);
        dueUnlike(text, 64, 2);
    }

    private static void unlikeFuel() {
        Check.sentence("would be another one than by the true ones, FUEL 2,000");
        // by the true ones 2 a + 1 STEPS, by rule 0 two more
        String text = "def aa(a){while b<a{b=b+1}}";
        dueUnlike(text, 998, 0);
        dueUnlike(text, 999, 1);
        // only by rule 2 does it come back
        dueUnlike(text, 1000, 1);
        // by the true ones 2 a + 2 STEPS: with just 2,000 of them it comes back, by rule 2 with 1
        String returns = "def aa(a){while b<a{b=b+1};return b}";
        dueUnlike(returns, 999, 2);
        dueUnlike(returns, 1000, 1);
        LessonMaker maker = Check.withProgram(text);
        maker.run(0, 3, 0, 0, 1);
        Check.due("unlike()", maker.unlike(0, 998, 0, 0), 0);
        Check.due("the latest run() stays", maker.ran(1), 1);
    }

    private static void unlikeRefused() {
        Check.sentence("FUEL 2,000; NONE: 1.");
        LessonMaker maker = new LessonMaker();
        Check.dueRefused("unlike(0), no PROGRAM", maker, maker.unlike(0, 0, 0, 0), 1);
        Check.program(maker, "def aa(){a=1}def bb(){a=1}");
        Check.dueTaken("unlike(1)", maker, maker.unlike(1, 0, 0, 0), 0);
        int[] bad = {-1, 2, 10, MIN, MAX};
        for (int f : bad) {
            Check.dueRefused("unlike(" + f + ")", maker, maker.unlike(f, 0, 0, 0), 1);
        }
        Check.dueRefused("ran(0): unlike() is no run()", maker, maker.ran(0), 5);
    }
}
