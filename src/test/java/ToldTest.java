/** Promises 19 (tell), 20 (shown), 21 (fewest) and 22 (picked). */
final class ToldTest {
    // LINES: 0 if, 1 say, 2 if, 3 say, 4 if, 5 say, 6 return
    private static final String BITS = "def aa(a,b,c){if a=1{say 1};if b=1{say 2};if c=1{say 3};return 0}";

    public static void main(String[] args) {
        tellsTwelve();
        shows();
        fewestOfAll();
        firstByNumbers();
        pickedAsTold();
        fuelAndDepth();
        Check.end();
    }

    private static void tellsTwelve() {
        LessonMaker maker = Check.withProgram("def aa(){say 1}");
        int[] bad = {-1, 1, Integer.MIN_VALUE, Integer.MAX_VALUE};
        for (int f : bad) {
            Check.due("tell(" + f + ")", maker.tell(f, 0, 0, 0), -1);
            Check.due("trouble()", maker.trouble(), 1);
        }
        for (int r = 0; r < 12; r++) {
            Check.due("tell " + r, maker.tell(0, 0, 0, 0), r);
            Check.due("trouble()", maker.trouble(), 0);
            Check.due("count(2)", maker.count(2), r + 1);
        }
        Check.due("tell 12", maker.tell(0, 0, 0, 0), -1);
        Check.due("trouble()", maker.trouble(), 3);
        Check.due("tell of none", maker.tell(1, 0, 0, 0), -1);
        Check.due("trouble()", maker.trouble(), 1);
        Check.due("count(2)", maker.count(2), 12);
        Check.due("fewest()", maker.fewest(), 1);
        Check.due("picked(0)", maker.picked(0), 0);
    }

    private static void shows() {
        LessonMaker maker = Check.withProgram(BITS);
        Check.due("shown()", maker.shown(), 0);
        maker.tell(0, 0, 0, 0);
        Check.due("shown()", maker.shown(), 4);
        maker.tell(0, 1, 0, 0);
        Check.due("shown()", maker.shown(), 5);
        maker.tell(0, 0, 1, 1);
        Check.due("shown()", maker.shown(), 7);
        maker.tell(0, 1, 1, 1);
        Check.due("shown()", maker.shown(), 7);
    }

    private static void dueFewest(int[] runs, int... want) {
        LessonMaker maker = Check.withProgram(BITS);
        for (int bits : runs) {
            maker.tell(0, bits & 1, bits >> 1 & 1, bits >> 2 & 1);
        }
        Check.due("fewest()", maker.fewest(), want.length);
        for (int i = 0; i < want.length; i++) {
            Check.due("picked(" + i + ")", maker.picked(i), want[i]);
        }
        Check.due("picked beyond", maker.picked(want.length), -1);
        Check.due("picked(-1)", maker.picked(-1), -1);
        Check.due("picked(MAX)", maker.picked(Integer.MAX_VALUE), -1);
    }

    private static void fewestOfAll() {
        dueFewest(new int[] {});
        dueFewest(new int[] {0}, 0);
        dueFewest(new int[] {0, 1, 3}, 2);
        dueFewest(new int[] {0, 1, 2, 4}, 1, 2, 3);
        dueFewest(new int[] {1, 2, 4, 3, 7}, 4);
        dueFewest(new int[] {1, 2, 4, 0, 0, 0, 0, 0, 0, 0, 0, 0}, 0, 1, 2);
    }

    private static void firstByNumbers() {
        dueFewest(new int[] {0, 0}, 0);
        dueFewest(new int[] {1, 3, 4, 6}, 0, 3);
        dueFewest(new int[] {2, 3, 4, 4, 5}, 0, 4);
        dueFewest(new int[] {0, 1, 2, 4, 3, 5, 6}, 1, 6);
        dueFewest(new int[] {5, 3, 6}, 0, 1);
        dueFewest(new int[] {0, 1, 6, 2, 5}, 1, 2);
    }

    private static void pickedAsTold() {
        LessonMaker maker = Check.withProgram(BITS);
        Check.due("picked(0) ahead of fewest()", maker.picked(0), -1);
        maker.tell(0, 1, 0, 0);
        Check.due("picked(0) ahead of fewest()", maker.picked(0), -1);
        Check.due("fewest()", maker.fewest(), 1);
        maker.tell(0, 1, 1, 1);
        Check.due("picked(0) as it was told", maker.picked(0), 0);
        Check.due("fewest()", maker.fewest(), 1);
        Check.due("picked(0)", maker.picked(0), 1);
        Check.due("fewest() again", maker.fewest(), 1);
        Check.due("picked(0) again", maker.picked(0), 1);
    }

    private static void fuelAndDepth() {
        LessonMaker maker = Check.withProgram("def aa(a){while 1=1{a=a+1;if a=900{say 1}}}"
                + "def bb(){say bb();say 2}");
        maker.tell(0, 0, 0, 0);
        Check.due("shown(): the 900th is beyond FUEL 2,000", maker.shown(), 3);
        maker.tell(0, 500, 0, 0);
        Check.due("shown()", maker.shown(), 4);
        maker.tell(1, 0, 0, 0);
        Check.due("shown()", maker.shown(), 5);
        Check.due("fewest()", maker.fewest(), 2);
        Check.due("picked(0)", maker.picked(0), 1);
        Check.due("picked(1)", maker.picked(1), 2);
    }
}
