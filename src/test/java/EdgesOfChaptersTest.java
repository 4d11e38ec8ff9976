/**
 * The boundary cases that the document names of chapters, told RUNS and TROUBLE: Terms I, IV and V,
 * and promises 17 to 26. Each method is of the sentence that it begins with, and stands alone for it.
 */
final class EdgesOfChaptersTest {
    private static final int MAX = Integer.MAX_VALUE;
    private static final int MIN = Integer.MIN_VALUE;
    // n shows LINES 2 n and 2 n + 1 of the ifs, and all ifs
    private static final String TWELVE = twelve();
    // LINES 0 if, 1 say, 2 if, 3 say, 4 if, 5 say, by three numbers
    private static final String THREE = "def aa(a,b,c){if a=1{say 1};if b=1{say 2};if c=1{say 3}}";

    public static void main(String[] args) {
        told12();
        orderOfOne();
        orderOfSelf();
        orderOfPairs();
        orderOfTen();
        orderOfEachProgram();
        orderFirst();
        toldByNumbers();
        shownByFuel();
        shownByDeep();
        shownNone();
        fewestNone();
        fewestTwelve();
        fewestFirst();
        anewFirst();
        anewTokens();
        anewNames();
        anewCalls();
        anewRings();
        anewAhead();
        troubles();
        troubleOfLatest();
        troubleStays();
        noProgramOrder();
        chapterNone();
        tellRefused();
        shownAll();
        pickedAsTold();
        pickedNone();
        anewNone();
        goneOfAll();
        countOthers();
        Check.end();
    }

    private static String twelve() {
        StringBuilder text = new StringBuilder("def aa(a){if a=0{b=0}");
        for (int i = 1; i < 12; i++) {
            text.append(";if a=").append(i).append("{b=0}");
        }
        return text.append("}").toString();
    }

    private static String name(int f) {
        return "f" + (char) ('a' + f);
    }

    /** FUNCTIONS fa, fb, .. each of which calls those that its row of bits says. */
    private static String graph(int... calls) {
        StringBuilder text = new StringBuilder();
        for (int f = 0; f < calls.length; f++) {
            text.append("def ").append(name(f)).append("(){a=1");
            for (int g = 0; g < calls.length; g++) {
                if ((calls[f] >> g & 1) != 0) {
                    text.append("+").append(name(g)).append("()");
                }
            }
            text.append("}");
        }
        return text.toString();
    }

    private static void dueOrder(String text, int want, int... chapters) {
        LessonMaker maker = Check.withProgram(text);
        Check.due("order() of " + text, maker.order(), want);
        for (int i = 0; i < chapters.length; i++) {
            Check.due("chapter(" + i + ") of " + text, maker.chapter(i), chapters[i]);
        }
        Check.due("chapter(" + chapters.length + ") of " + text, maker.chapter(chapters.length), -1);
    }

    private static void duePicked(LessonMaker maker, String what, int... want) {
        Check.due("fewest() of " + what, maker.fewest(), want.length);
        for (int i = 0; i < want.length; i++) {
            Check.due("picked(" + i + ") of " + what, maker.picked(i), want[i]);
        }
        Check.due("picked(" + want.length + ") of " + what, maker.picked(want.length), -1);
    }

    // ---- Terms I

    private static void told12() {
        Check.sentence("RUNS told 12");
        LessonMaker maker = Check.withProgram(TWELVE);
        for (int r = 0; r < 12; r++) {
            Check.dueTaken("tell " + r, maker, maker.tell(0, 11 - r, 0, 0), r);
            Check.due("count(2)", maker.count(2), r + 1);
            Check.due("shown()", maker.shown(), 12 + r + 1);
        }
        Check.dueRefused("tell of a 13th", maker, maker.tell(0, 0, 0, 0), 3);
        Check.due("count(2)", maker.count(2), 12);
        Check.due("shown()", maker.shown(), 24);
    }

    // ---- Terms IV

    private static void orderOfOne() {
        Check.sentence("FUNCTIONS such that as few pairs as can be have one that calls another one told behind it");
        dueOrder(graph(0), 0, 0);
        dueOrder(graph(0, 0), 0, 0, 1);
        dueOrder(graph(2, 0), 0, 1, 0);
        dueOrder(graph(0, 1), 0, 0, 1);
        dueOrder(graph(2, 1), 1, 0, 1);
    }

    private static void orderOfSelf() {
        Check.sentence("have one that calls another one told behind it");
        dueOrder(graph(1), 0, 0);
        dueOrder(graph(3, 2), 0, 1, 0);
        dueOrder(graph(3, 3), 1, 0, 1);
    }

    private static void orderOfPairs() {
        Check.sentence("in how many pairs a FUNCTION calls one told behind it");
        // called often, it is one pair
        dueOrder("def aa(){a=bb()+bb()*bb();say bb()}def bb(){a=aa();b=1}", 1, 0, 1);
        // two FUNCTIONS that call one: two pairs if it were told last
        dueOrder(graph(4, 4, 0), 0, 2, 0, 1);
        dueOrder(graph(4, 4, 1), 1, 0, 2, 1);
        dueOrder(graph(4, 4, 3), 2, 0, 1, 2);
    }

    private static void orderOfTen() {
        Check.sentence("FUNCTIONS such that as few pairs as can be have one that calls another one told behind it");
        int[] chain = new int[10];
        int[] all = new int[10];
        int[] ring = new int[10];
        for (int f = 0; f < 10; f++) {
            chain[f] = f < 9 ? 2 << f : 0;
            ring[f] = f < 9 ? 2 << f : 1;
            all[f] = 1023 & ~(1 << f);
        }
        dueOrder(graph(chain), 0, 9, 8, 7, 6, 5, 4, 3, 2, 1, 0);
        dueOrder(graph(ring), 1, 0, 9, 8, 7, 6, 5, 4, 3, 2, 1);
        dueOrder(graph(new int[10]), 0, 0, 1, 2, 3, 4, 5, 6, 7, 8, 9);
        String full = graph(all).replace("a=1+", "a=");
        Check.due("its length is at most 600", full.length() <= 600 ? 1 : 0, 1);
        dueOrder(full, 45, 0, 1, 2, 3, 4, 5, 6, 7, 8, 9);
    }

    private static void orderOfEachProgram() {
        Check.sentence("in how many pairs a FUNCTION calls one told behind it");
        // all call all, of ten down to one: what stood ahead is of no matter
        LessonMaker maker = new LessonMaker();
        for (int n = 10; n > 0; n -= 3) {
            int[] all = new int[n];
            for (int f = 0; f < n; f++) {
                all[f] = (1 << n) - 1 & ~(1 << f);
            }
            Check.program(maker, graph(all).replace("a=1+", "a="));
            Check.due("order() of " + n, maker.order(), n * (n - 1) / 2);
            for (int i = 0; i < n; i++) {
                Check.due("chapter(" + i + ") of " + n, maker.chapter(i), i);
            }
        }
        Check.program(maker, graph(1022, 0, 0, 0, 0, 0, 0, 0, 0, 0));
        Check.due("order() of one that calls nine", maker.order(), 0);
        Check.due("chapter(9) of one that calls nine", maker.chapter(9), 0);
        Check.program(maker, graph(new int[10]));
        Check.due("order() of ten that call none", maker.order(), 0);
        Check.due("chapter(9) of ten that call none", maker.chapter(9), 9);
    }

    private static void orderFirst() {
        Check.sentence("of as good orders the first by FUNCTIONS' numbers");
        dueOrder(graph(0, 0, 0), 0, 0, 1, 2);
        dueOrder(graph(4, 0, 0), 0, 1, 2, 0);
        dueOrder(graph(0, 4, 0), 0, 0, 2, 1);
        dueOrder(graph(2, 4, 1), 1, 0, 2, 1);
        dueOrder(graph(4, 1, 2), 1, 0, 1, 2);
        dueOrder(graph(2, 1, 8, 4), 2, 0, 1, 2, 3);
    }

    private static void toldByNumbers() {
        Check.sentence("RUNS told: a FUNCTION and its numbers");
        LessonMaker maker = Check.withProgram("def aa(a,b,c){if a=7{d=1};if b=8{d=1};if c=9{d=1}}"
                + "def bb(c,b){if b=8{d=1};if c=7{d=1}}def cc(){d=1}");
        int[] functions = {2, 0, 0, 0, 0, 1, 1, 1};
        int[][] numbers = {{7, 8, 9}, {7, 0, 0}, {0, 8, 0}, {0, 0, 9}, {9, 7, 8}, {7, 0, 9}, {0, 8, 9}, {8, 7, 9}};
        int[] shown = {1, 5, 6, 7, 7, 10, 11, 11};
        for (int r = 0; r < functions.length; r++) {
            Check.due("tell", maker.tell(functions[r], numbers[r][0], numbers[r][1], numbers[r][2]), r);
            Check.due("shown() of " + (r + 1), maker.shown(), shown[r]);
        }
        duePicked(maker, "all", 0, 1, 2, 3, 5, 6);
    }

    private static void shownByFuel() {
        Check.sentence("SHOWN: LINES that some of them, by FUEL 2,000 each, COVER");
        // the last LINE is the (2 a + 2)th STEP, or one further
        String even = "def aa(a){while b<a{b=b+1};c=1}";
        String odd = "def aa(a){d=1;while b<a{b=b+1};c=1}";
        LessonMaker maker = Check.withProgram(even);
        maker.tell(0, 1000, 0, 0);
        Check.due("shown() of 2,002", maker.shown(), 2);
        maker.tell(0, 999, 0, 0);
        Check.due("shown() of 2,000", maker.shown(), 3);
        maker = Check.withProgram(odd);
        maker.tell(0, 999, 0, 0);
        Check.due("shown() of 2,001", maker.shown(), 3);
        maker.tell(0, 998, 0, 0);
        Check.due("shown() of 1,999", maker.shown(), 4);
        // each has FUEL of its own
        for (int i = 2; i < 12; i++) {
            maker.tell(0, 998, 0, 0);
        }
        duePicked(maker, "the same ones", 1);
    }

    private static void shownByDeep() {
        Check.sentence("SHOWN: LINES that some of them, by FUEL 2,000 each, COVER");
        LessonMaker maker = Check.withProgram("def aa(a){if a=0{return 1};b=aa(a-1);c=1}");
        maker.tell(0, 8, 0, 0);
        Check.due("shown() of nine calls", maker.shown(), 2);
        maker.tell(0, 7, 0, 0);
        Check.due("shown() of eight calls", maker.shown(), 4);
        duePicked(maker, "both", 1);
    }

    private static void shownNone() {
        Check.sentence("How many LINES are SHOWN.");
        LessonMaker maker = new LessonMaker();
        Check.due("shown(), no PROGRAM", maker.shown(), 0);
        Check.program(maker, THREE);
        Check.due("shown(), none told", maker.shown(), 0);
        maker.run(0, 1, 1, 1, 2000);
        maker.unlike(0, 1, 1, 1);
        Check.due("shown(): run() tells none", maker.shown(), 0);
        maker.tell(1, 0, 0, 0);
        Check.due("shown(): tell() was refused", maker.shown(), 0);
        maker.tell(0, 0, 0, 0);
        Check.due("shown()", maker.shown(), 3);
    }

    private static void shownAll() {
        Check.sentence("How many LINES are SHOWN.");
        LessonMaker maker = Check.withProgram("def aa(a){if a=0{" + Check.times("a=1;", 28) + "a=1}else{"
                + Check.times("a=1;", 29) + "a=1}}");
        Check.due("count(1)", maker.count(1), 60);
        maker.tell(0, 0, 0, 0);
        Check.due("shown()", maker.shown(), 30);
        maker.tell(0, 1, 0, 0);
        Check.due("shown()", maker.shown(), 60);
        duePicked(maker, "sixty LINES", 0, 1);
    }

    private static void fewestNone() {
        Check.sentence("FEWEST: RUNS that show all that is SHOWN");
        LessonMaker maker = new LessonMaker();
        duePicked(maker, "no PROGRAM", new int[0]);
        Check.program(maker, THREE);
        duePicked(maker, "none told", new int[0]);
        maker.tell(0, 0, 0, 0);
        duePicked(maker, "one told", 0);
        maker.tell(0, 0, 0, 0);
        duePicked(maker, "the same one told", 0);
        maker.tell(0, 1, 0, 1);
        duePicked(maker, "one that shows more", 2);
        maker.tell(0, 0, 1, 0);
        duePicked(maker, "two that need one another", 2, 3);
        maker.tell(0, 1, 1, 1);
        duePicked(maker, "one that shows all", 4);
    }

    private static void fewestTwelve() {
        Check.sentence("FEWEST: RUNS that show all that is SHOWN");
        LessonMaker maker = Check.withProgram(TWELVE);
        for (int r = 0; r < 12; r++) {
            maker.tell(0, r, 0, 0);
            Check.due("fewest() of " + (r + 1), maker.fewest(), r + 1);
        }
        duePicked(maker, "twelve", 0, 1, 2, 3, 4, 5, 6, 7, 8, 9, 10, 11);
        Check.program(maker, TWELVE);
        for (int r = 0; r < 12; r++) {
            maker.tell(0, r == 5 ? 99 : r, 0, 0);
        }
        duePicked(maker, "eleven of twelve", 0, 1, 2, 3, 4, 6, 7, 8, 9, 10, 11);
        Check.program(maker, THREE);
        for (int r = 0; r < 11; r++) {
            maker.tell(0, r & 1, r >> 1 & 1, 0);
        }
        maker.tell(0, 0, 0, 1);
        duePicked(maker, "the last of twelve", 3, 11);
    }

    private static void fewestFirst() {
        Check.sentence("of as few the first by numbers");
        int[][] told = {{1, 1}, {4, 2, 1, 3, 3}, {1, 2, 3}, {1, 6, 3, 4}, {3, 5, 6}, {2, 4, 1, 5, 3, 6},
            {0, 3, 4, 5, 2}};
        int[][] want = {{0}, {0, 3}, {2}, {0, 1}, {0, 1}, {0, 3}, {1, 2}};
        for (int i = 0; i < told.length; i++) {
            LessonMaker maker = Check.withProgram(THREE);
            for (int bits : told[i]) {
                maker.tell(0, bits & 1, bits >> 1 & 1, bits >> 2 & 1);
            }
            duePicked(maker, "row " + i, want[i]);
        }
    }

    private static void dueAnew(LessonMaker maker, String text, int... want) {
        Check.due("program() of " + text, Check.program(maker, text), want.length);
        for (int f = 0; f < want.length; f++) {
            Check.due("anew(" + f + ") of " + text, maker.anew(f), want[f]);
        }
        Check.due("anew(" + want.length + ") of " + text, maker.anew(want.length), -1);
    }

    private static void anewFirst() {
        Check.sentence("beside the PROGRAM that was ahead of this one");
        LessonMaker maker = new LessonMaker();
        dueAnew(maker, graph(2, 0), 2, 2);
        dueAnew(maker, graph(2, 0), 0, 0);
        dueAnew(maker, graph(2, 0), 0, 0);
        // the one before the one ahead is of no matter
        dueAnew(maker, "def zz(){a=1}", 2);
        dueAnew(maker, graph(2, 0), 2, 2);
    }

    private static void anewTokens() {
        Check.sentence("its TOKENS (from def to its last }, as they stand) are others");
        String text = "def aa(a){if a<1{say a}else{return 12+a}}";
        String[] same = {text, " def\naa ( a ) { if a < 1 { say a } else { return 12 + a } } ", text + "\n",
            "def zz(){a=1}" + text};
        String[] others = {text.replace("(a)", "(b)"), text.replace("<", ">"), text.replace("12", "13"),
            text.replace("12", "1"), text.replace("12", "012"), text.replace("say", "return"),
            text.replace("12+a", "a+12"), text.replace("12+a", "12"), text.replace("else{return 12+a}", ""),
            text.replace("else", ";if 1=1"), text.replace("12", "(12)"), text.replace("}}", "};say 1}"),
            text.replace("a}}", "b}}")};
        for (String now : same) {
            LessonMaker maker = Check.withProgram(text);
            Check.program(maker, now);
            Check.due("anew() of " + now, maker.anew(maker.count(0) - 1), 0);
        }
        for (String now : others) {
            LessonMaker maker = Check.withProgram(text);
            dueAnew(maker, now, 2);
        }
    }

    private static void anewNames() {
        Check.sentence("2 if its NAME is new");
        LessonMaker maker = Check.withProgram("def ab(){a=1}def abcdefgh(){a=1}");
        dueAnew(maker, "def ac(){a=1}def ab(){a=1}def abc(){a=1}def abcdefgg(){a=1}def abcdefgh(){a=1}", 2, 0, 2, 2, 0);
        // NAMES that changed their FUNCTIONS' TOKENS with one another
        maker = Check.withProgram("def aa(){a=1}def bb(){a=2}def cc(){a=3}");
        dueAnew(maker, "def cc(){a=3}def aa(){a=2}def bb(){a=1}", 0, 2, 2);
        StringBuilder ten = new StringBuilder();
        for (int f = 9; f >= 0; f--) {
            ten.append("def ").append(name(f)).append("(){a=1}");
        }
        maker = Check.withProgram(graph(new int[10]));
        dueAnew(maker, ten.toString(), 0, 0, 0, 0, 0, 0, 0, 0, 0, 0);
    }

    private static void anewCalls() {
        Check.sentence("1 if else some FUNCTION that it calls, or that these call .., is so; 0 else");
        String[] bodies = new String[10];
        for (int f = 0; f < 10; f++) {
            bodies[f] = "def " + name(f) + "(){a=" + (f < 9 ? name(f + 1) + "()" : "1") + "}";
        }
        String chain = String.join("", bodies);
        for (int changed = 0; changed < 10; changed++) {
            LessonMaker maker = Check.withProgram(chain);
            String was = bodies[changed];
            int[] want = new int[10];
            for (int f = 0; f < 10; f++) {
                want[f] = f < changed ? 1 : f == changed ? 2 : 0;
            }
            dueAnew(maker, chain.replace(was, was.replace("a=", "b=")), want);
        }
        // by each FUNCTION between the two
        for (int between = 0; between < 3; between++) {
            int[] calls = {0, 0, 0};
            int caller = (between + 1) % 3;
            int called = (between + 2) % 3;
            calls[caller] = 1 << between;
            calls[between] = 1 << called;
            LessonMaker maker = Check.withProgram(graph(calls));
            String was = "def " + name(called) + "(){a=1";
            int[] want = {1, 1, 1};
            want[called] = 2;
            dueAnew(maker, graph(calls).replace(was, was + "+1"), want);
        }
        // those that call nothing which is so
        LessonMaker maker = Check.withProgram(graph(2, 0, 0, 4));
        dueAnew(maker, graph(2, 0, 0, 4).replace("def fb(){a=1}", "def fb(){a=2}"), 1, 2, 0, 0);
        // one that is new and that others, though they stand as they were, can't call yet
        maker = Check.withProgram(graph(2, 0));
        dueAnew(maker, graph(2, 0) + "def zz(){a=1}", 0, 0, 2);
        // what it calls came back in another PLACE of the text
        maker = Check.withProgram("def aa(){a=bb()}def bb(){a=1}");
        dueAnew(maker, "def bb(){a=1}def aa(){a=bb()}", 0, 0);
    }

    private static void anewRings() {
        Check.sentence("1 if else some FUNCTION that it calls, or that these call .., is so; 0 else");
        LessonMaker maker = Check.withProgram(graph(1));
        dueAnew(maker, graph(1), 0);
        dueAnew(maker, graph(1).replace("a=1", "a=2"), 2);
        maker = Check.withProgram(graph(2, 4, 1));
        dueAnew(maker, graph(2, 4, 1), 0, 0, 0);
        dueAnew(maker, graph(2, 4, 1).replace("fc(){a=1", "fc(){a=2"), 1, 1, 2);
        dueAnew(maker, graph(2, 4, 1).replace("fc(){a=1", "fc(){a=2"), 0, 0, 0);
    }

    private static void anewAhead() {
        Check.sentence("4 (all but THE TAPE stays)");
        LessonMaker maker = Check.withProgram("def aa(){a=1}");
        dueAnew(maker, "def aa(){a=1}def bb(){a=1}", 0, 2);
        Check.due("a FAULT", Check.program(maker, "def cc(){a=1}def aa(){"), -1);
        Check.due("anew(0)", maker.anew(0), 0);
        Check.due("anew(1)", maker.anew(1), 2);
        Check.due("gone()", maker.gone(), 0);
        dueAnew(maker, "def bb(){a=1}", 0);
        Check.due("gone()", maker.gone(), 1);
    }

    // ---- Terms V

    private static void troubles() {
        Check.sentence("0 it wasn't; 1 there is none such; 2 a number; 3 no room; 4 a FAULT; 5 nothing was run");
        LessonMaker maker = new LessonMaker();
        Check.due("trouble() of a new object", maker.trouble(), 0);
        maker.tell(0, 0, 0, 0);
        Check.due("trouble(): none such", maker.trouble(), 1);
        maker.program(1);
        Check.due("trouble(): a number", maker.trouble(), 2);
        for (int i = 0; i < 31; i++) {
            maker.feed(0, 0, 0, 0, 0);
        }
        Check.due("trouble(): no room", maker.trouble(), 3);
        maker.program(600);
        Check.due("trouble(): a FAULT", maker.trouble(), 4);
        maker.place(0);
        Check.due("trouble(): nothing was run", maker.trouble(), 5);
        maker.feed(0, 0, 0, 0, 0);
        Check.due("trouble(): it wasn't", maker.trouble(), 0);
    }

    private static void troubleOfLatest() {
        Check.sentence("TROUBLE of the latest call that may be refused");
        LessonMaker maker = Check.withProgram("def aa(){return 1}");
        String[] calls = {"feed", "program", "run", "ran", "place", "wrong", "unlike", "tell"};
        for (int call = 0; call < calls.length; call++) {
            // refused by 2 ahead of each that is not
            maker.run(0, 0, 0, 0, 1);
            maker.run(0, 0, 0, 0, 0);
            Check.due("trouble() ahead of " + calls[call], maker.trouble(), 2);
            taken(maker, call);
            Check.due("trouble() behind " + calls[call], maker.trouble(), 0);
        }
    }

    private static void taken(LessonMaker maker, int call) {
        switch (call) {
            case 0:
                Check.due("feed", maker.feed(0, 0, 0, 0, 0), 20);
                break;
            case 1:
                maker.program(0);
                Check.feed(maker, "def aa(){return 1}");
                maker.run(0, 0, 0, 0, 0);
                Check.due("program", maker.program(18), 1);
                break;
            case 2:
                Check.due("run", maker.run(0, 0, 0, 0, 1), 0);
                break;
            case 3:
                Check.due("ran", maker.ran(0), 1);
                break;
            case 4:
                Check.due("place", maker.place(0), 0);
                break;
            case 5:
                Check.due("wrong", maker.wrong(0, 0, 0, 0, 0), 1);
                break;
            case 6:
                Check.due("unlike", maker.unlike(0, 0, 0, 0), 0);
                break;
            default:
                Check.due("tell", maker.tell(0, 0, 0, 0), 0);
                break;
        }
    }

    private static void troubleStays() {
        Check.sentence("TROUBLE of the latest call that may be refused");
        LessonMaker maker = Check.withProgram("def aa(){say 1}");
        maker.run(0, 0, 0, 0, 1);
        int[] refusals = {1, 2, 4};
        for (int trouble : refusals) {
            if (trouble == 1) {
                maker.tell(7, 0, 0, 0);
            } else if (trouble == 2) {
                maker.run(0, 0, 0, 0, 0);
            } else {
                maker.program(0);
            }
            maker.fault();
            maker.where();
            maker.function(0, 0);
            maker.function(7, 7);
            maker.name(0, 0);
            Check.dueNoSuch("name(7, 7)", () -> maker.name(7, 7));
            maker.line(0, 0);
            maker.line(7, 7);
            maker.said(0);
            Check.dueNoSuch("said(7)", () -> maker.said(7));
            maker.trace(0, 0);
            Check.dueNoSuch("trace(7, 7)", () -> maker.trace(7, 7));
            maker.covered(0);
            maker.covered(7);
            maker.order();
            maker.chapter(0);
            maker.chapter(7);
            maker.shown();
            maker.fewest();
            maker.picked(0);
            maker.anew(0);
            maker.anew(7);
            maker.gone();
            maker.count(0);
            maker.count(7);
            maker.trouble();
            Check.due("trouble() behind calls that aren't refused", maker.trouble(), trouble);
        }
    }

    // ---- promises

    private static void noProgramOrder() {
        Check.sentence("-2 without a PROGRAM");
        LessonMaker maker = new LessonMaker();
        Check.due("order()", maker.order(), -2);
        Check.due("trouble()", maker.trouble(), 0);
        maker.program(0);
        Check.due("order() behind a FAULT", maker.order(), -2);
        Check.program(maker, graph(0));
        Check.due("order()", maker.order(), 0);
        maker.program(0);
        Check.due("order() behind a FAULT", maker.order(), 0);
    }

    private static void chapterNone() {
        Check.sentence("The i-th FUNCTION of ORDER (order() needn't be asked ahead); NONE.");
        LessonMaker maker = new LessonMaker();
        Check.due("chapter(0), no PROGRAM", maker.chapter(0), -1);
        Check.program(maker, graph(2, 4, 0));
        Check.due("chapter(2)", maker.chapter(2), 0);
        Check.due("chapter(0)", maker.chapter(0), 2);
        Check.due("chapter(1)", maker.chapter(1), 1);
        Check.due("chapter(3)", maker.chapter(3), -1);
        Check.due("chapter(-1)", maker.chapter(-1), -1);
        for (int far : Check.FAR) {
            Check.due("chapter(" + far + ")", maker.chapter(far), -1);
        }
        // of fewer FUNCTIONS, then of others
        Check.program(maker, graph(0));
        Check.due("chapter(1)", maker.chapter(1), -1);
        Check.due("chapter(0)", maker.chapter(0), 0);
        Check.program(maker, graph(0, 0, 0));
        Check.due("chapter(2)", maker.chapter(2), 2);
        Check.due("chapter(0)", maker.chapter(0), 0);
    }

    private static void tellRefused() {
        Check.sentence("A RUN is told: its number. NONE: 1; 3.");
        LessonMaker maker = new LessonMaker();
        Check.dueRefused("tell, no PROGRAM", maker, maker.tell(0, 0, 0, 0), 1);
        Check.program(maker, "def aa(){a=1}def bb(){return bb()}def cc(){while 1=1{a=1}}");
        int[] bad = {-1, 3, 10, MIN, MAX};
        for (int f : bad) {
            Check.dueRefused("tell(" + f + ")", maker, maker.tell(f, 0, 0, 0), 1);
        }
        Check.due("count(2)", maker.count(2), 0);
        // a RUN that doesn't come back is told, too
        for (int r = 0; r < 12; r++) {
            Check.dueTaken("tell " + r, maker, maker.tell(r % 3, MIN, MAX, r), r);
        }
        Check.dueRefused("tell of a 13th", maker, maker.tell(0, 0, 0, 0), 3);
        for (int f : bad) {
            Check.dueRefused("tell(" + f + ") of a 13th", maker, maker.tell(f, 0, 0, 0), 1);
        }
        Check.due("count(2)", maker.count(2), 12);
        duePicked(maker, "these", 0, 1, 2);
    }

    private static void pickedAsTold() {
        Check.sentence("The i-th RUN of FEWEST as the latest fewest() (of this PROGRAM) told it");
        LessonMaker maker = Check.withProgram(THREE);
        maker.tell(0, 1, 0, 0);
        Check.due("picked(0), fewest() wasn't asked", maker.picked(0), -1);
        Check.due("fewest()", maker.fewest(), 1);
        maker.tell(0, 1, 1, 0);
        maker.tell(0, 0, 0, 1);
        Check.due("shown()", maker.shown(), 6);
        Check.due("picked(0) of the latest fewest()", maker.picked(0), 0);
        Check.due("picked(1) of the latest fewest()", maker.picked(1), -1);
        duePicked(maker, "now", 1, 2);
        maker.tell(0, 1, 1, 1);
        Check.due("picked(1) of the latest fewest()", maker.picked(1), 2);
        Check.due("a FAULT", maker.program(0), -1);
        Check.due("picked(1): it is still this PROGRAM", maker.picked(1), 2);
        duePicked(maker, "now", 3);
        Check.program(maker, THREE);
        Check.due("picked(0) of a new PROGRAM", maker.picked(0), -1);
        maker.tell(0, 0, 0, 0);
        Check.due("picked(0) ahead of fewest()", maker.picked(0), -1);
        duePicked(maker, "now", 0);
    }

    private static void pickedNone() {
        Check.sentence("told it; NONE.");
        LessonMaker maker = Check.withProgram(TWELVE);
        for (int r = 0; r < 12; r++) {
            maker.tell(0, r, 0, 0);
        }
        maker.fewest();
        Check.due("picked(11)", maker.picked(11), 11);
        Check.due("picked(12)", maker.picked(12), -1);
        Check.due("picked(-1)", maker.picked(-1), -1);
        for (int far : Check.FAR) {
            Check.due("picked(" + far + ")", maker.picked(far), -1);
        }
    }

    private static void anewNone() {
        Check.sentence("ANEW of a FUNCTION; NONE.");
        LessonMaker maker = new LessonMaker();
        Check.due("anew(0), no PROGRAM", maker.anew(0), -1);
        Check.program(maker, graph(new int[10]));
        Check.due("anew(9)", maker.anew(9), 2);
        Check.due("anew(10)", maker.anew(10), -1);
        Check.due("anew(-1)", maker.anew(-1), -1);
        for (int far : Check.FAR) {
            Check.due("anew(" + far + ")", maker.anew(far), -1);
        }
        Check.program(maker, graph(0, 0));
        Check.due("anew(1)", maker.anew(1), 0);
        Check.due("anew(2) of fewer FUNCTIONS", maker.anew(2), -1);
    }

    private static void goneOfAll() {
        Check.sentence("How many FUNCTIONS of the PROGRAM ahead have no FUNCTION of their NAME now.");
        LessonMaker maker = new LessonMaker();
        Check.due("gone(), no PROGRAM", maker.gone(), 0);
        Check.program(maker, graph(new int[10]));
        Check.due("gone(), none ahead", maker.gone(), 0);
        Check.program(maker, graph(new int[10]));
        Check.due("gone(), the same", maker.gone(), 0);
        Check.program(maker, graph(new int[9]).replace("a=1", "a=2"));
        Check.due("gone(), others of their NAMES", maker.gone(), 1);
        Check.program(maker, graph(new int[10]));
        Check.due("gone(), one more", maker.gone(), 0);
        Check.program(maker, "def zz(){a=1}");
        Check.due("gone(), all ten", maker.gone(), 10);
        Check.due("gone() again", maker.gone(), 10);
        Check.program(maker, "def zzz(){a=1}def fa(){a=1}");
        Check.due("gone(), a longer NAME", maker.gone(), 1);
    }

    private static void countOthers() {
        Check.sentence("0 FUNCTIONS, 1 LINES, 2 RUNS told, 3 bytes of THE TAPE. NONE for others.");
        LessonMaker maker = new LessonMaker();
        int[] bad = {-1, 4, 5, MIN, MAX};
        for (int what : bad) {
            Check.due("count(" + what + ") of a new object", maker.count(what), -1);
        }
        StringBuilder text = new StringBuilder();
        for (int f = 0; f < 10; f++) {
            text.append("def ").append(name(f)).append("(){a=1;a=1;a=1;a=1;a=1;a=1}");
        }
        Check.program(maker, text.toString());
        for (int r = 0; r < 13; r++) {
            maker.tell(9, 0, 0, 0);
        }
        for (int i = 0; i < 31; i++) {
            maker.feed(0, 0, 0, 0, 0);
        }
        int[] most = {10, 60, 12, 600};
        for (int what = 0; what < 4; what++) {
            Check.due("count(" + what + ")", maker.count(what), most[what]);
        }
        for (int what : bad) {
            Check.due("count(" + what + ")", maker.count(what), -1);
        }
        Check.due("trouble() is feed's", maker.trouble(), 3);
    }
}
