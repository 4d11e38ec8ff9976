/** Promises 15 (wrong) and 16 (unlike). */
final class WrongRulesTest {
    public static void main(String[] args) {
        ruleLess();
        ruleTake();
        ruleLoop();
        ruleTimes();
        endsAreNought();
        unlikeByEach();
        refusals();
        Check.end();
    }

    private static void dueWrong(String text, int x, int y, int... want) {
        LessonMaker maker = Check.withProgram(text);
        for (int rule = 0; rule < want.length; rule++) {
            Check.due("wrong(" + rule + ") of " + text, maker.wrong(rule, 0, x, y, 0), want[rule]);
            Check.due("trouble()", maker.trouble(), 0);
        }
    }

    private static void ruleLess() {
        String less = "def aa(a,b){if a<b{return 1};return 2}";
        dueWrong(less, 3, 3, 1, 2, 2, 2);
        dueWrong(less, 2, 3, 1, 1, 1, 1);
        dueWrong(less, 4, 3, 2, 2, 2, 2);
        String others = "def aa(a,b){if a>b{return 1};if a=b{return 3};return 2}";
        dueWrong(others, 3, 3, 3, 3, 3, 3);
        dueWrong("def aa(a){while b<a{b=b+1};return b}", 3, 0, 4, 3, 1, 3);
    }

    private static void ruleTake() {
        dueWrong("def aa(a,b){return a-b}", 10, 3, 7, -7, 7, 7);
        dueWrong("def aa(a,b){return a-b-1}", 10, 3, 6, 8, 6, 6);
        dueWrong("def aa(a,b){return a+b-1}", 10, 3, 12, -12, 12, 12);
        dueWrong("def aa(a,b){return a-b*2}", 10, 3, 4, -4, 4, 5);
    }

    private static void ruleLoop() {
        dueWrong("def aa(a,b){while a>0{a=a-1;c=c+1};return c}", 5, 0, 5, 1, 1, 5);
        dueWrong("def aa(a,b){while a>0{c=7};return c}", 0, 0, 0, 0, 0, 0);
        dueWrong("def aa(a,b){while a<3{a=a+1;b=0;while b<3{b=b+1;c=c+1}};return c}", 0, 0, 16, 9, 1, 9);
        // each while that is begun does its BLOCK once
        dueWrong("def aa(a,b){return bb()*10+bb()}def bb(){while a<4{a=a+1};return a}", 0, 0, 55, 44, 11, 18);
        // the TEST is not asked again behind that BLOCK
        LessonMaker maker = Check.withProgram("def aa(){while bb()>a{a=a+1};return a}def bb(){say 9;return 1}");
        Check.due("wrong(2)", maker.wrong(2, 0, 0, 0, 0), 1);
        Check.due("unlike: one SAID fewer", maker.unlike(0, 0, 0, 0), 1);
    }

    private static void ruleTimes() {
        dueWrong("def aa(a,b){return a*b}", 10, 3, 30, 30, 30, 13);
        dueWrong("def aa(a,b){return a*b*2+1}", 10, 3, 61, 61, 61, 16);
        dueWrong("def aa(a,b){return 2*(a-b)-a*b}", 10, 3, -16, 44, -16, -4);
    }

    private static void endsAreNought() {
        dueWrong("def aa(a){while 1<1{a=1};return 5}", 0, 0, 0, 5, 5, 5);
        dueWrong("def aa(a){if a=0{return 5};return 1+aa(a-1)}", 2, 0, 7, 0, 7, 7);
        dueWrong("def aa(a){while a=a{b=b+1};return b}", 0, 0, 0, 0, 1, 0);
    }

    private static void dueUnlike(String text, int x, int want) {
        LessonMaker maker = Check.withProgram(text);
        Check.due("unlike of " + text, maker.unlike(0, x, 0, 0), want);
        Check.due("trouble()", maker.trouble(), 0);
    }

    private static void unlikeByEach() {
        dueUnlike("def aa(a){return a}", 3, 0);
        dueUnlike("def aa(a){if a<3{b=1};return a}", 3, 0);
        dueUnlike("def aa(a){if a<3{say 1};return a}", 3, 1);
        dueUnlike("def aa(a){if a<3{say 1}else{say 2};return a}", 3, 1);
        dueUnlike("def aa(a){say a-1}", 3, 1);
        dueUnlike("def aa(a){say a-1;return a*1}", 3, 2);
        dueUnlike("def aa(a){while b<a{b=b+1};return b*1-1}", 3, 4);
        dueUnlike("def aa(a){while 1<1{a=1}}", 3, 1);
        // a number beyond the SAID that are kept may differ unseen
        String far = "def aa(a){while b<60{b=b+1;say 0};if a<3{say 5}else{say 6}}";
        dueUnlike(far, 3, 2);
        dueUnlike("def aa(a){while b=b{b=b+1;say 0;if b>a{say b*2;return 0}}}", 58, 2);
        dueUnlike("def aa(a){while b=b{b=b+1;say 0;if b>a{say b*2;return 0}}}", 59, 1);
    }

    private static void refusals() {
        LessonMaker maker = Check.withProgram("def aa(){return 1}");
        int[] bad = {-1, 1, 10, Integer.MIN_VALUE, Integer.MAX_VALUE};
        for (int f : bad) {
            Check.due("wrong of " + f, maker.wrong(0, f, 0, 0, 0), -1);
            Check.due("trouble()", maker.trouble(), 1);
            Check.due("wrong of " + f + " by 4", maker.wrong(4, f, 0, 0, 0), -1);
            Check.due("trouble()", maker.trouble(), 1);
            maker.feed(0, 0, 0, 0, 0);
            Check.due("unlike of " + f, maker.unlike(f, 0, 0, 0), -1);
            Check.due("trouble()", maker.trouble(), 1);
        }
        int[] badRule = {-1, 4, Integer.MIN_VALUE, Integer.MAX_VALUE};
        for (int rule : badRule) {
            Check.due("wrong by " + rule, maker.wrong(rule, 0, 0, 0, 0), -1);
            Check.due("trouble()", maker.trouble(), 2);
        }
        Check.due("ran(0): nothing was run", maker.ran(0), -1);
        Check.due("trouble()", maker.trouble(), 5);
    }
}
