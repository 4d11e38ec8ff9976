import java.util.NoSuchElementException;
import java.util.Random;

/**
 * All promises: any numbers in any state answer, or throw the one exception that the document names,
 * and two objects that are called alike answer alike.
 */
final class AnyCallsTest {
    private static final String[] TEXTS = {
        "def aa(a){if a<2{return 1};return a*aa(a-1)}def bb(){say aa(3)}",
        "def aa(a,b,c){while a<b{a=a+1;say a*c;if a=7{return 9}}}def cc(h){return aa(h,9,2)-dd()}def dd(){say 4}",
        "def aa(){while 1=1{a=a+1;say a}}",
        "def aa(){say aa()}",
        "def aa(){say zz()}",
        "def aa(",
        "def aa(a){if a=1{say 1}else{say 2}}def ee(a){return aa(a)+aa(a-1)}",
    };
    private static final int[] EDGES = {-1, 0, 1, 2, 3, 4, 5, 6, 7, 8, 9, 10, 11, 12, 59, 60, 61, 399, 400, 401,
        599, 600, 601, 1999, 2000, 2001, Integer.MIN_VALUE, Integer.MAX_VALUE};

    private final Random random;

    private AnyCallsTest(long seed) {
        random = new Random(seed);
    }

    public static void main(String[] args) {
        for (long seed = 1; seed <= 1500; seed++) {
            AnyCallsTest first = new AnyCallsTest(seed);
            AnyCallsTest second = new AnyCallsTest(seed);
            LessonMaker one = new LessonMaker();
            LessonMaker other = new LessonMaker();
            for (int i = 0; i < 130; i++) {
                Check.due("seed " + seed + ", call " + i, first.call(one), second.call(other));
            }
        }
        Check.end();
    }

    private int any() {
        int way = random.nextInt(8);
        return way == 0 ? random.nextInt() : way < 3 ? EDGES[random.nextInt(EDGES.length)] : random.nextInt(7) - 1;
    }

    private long call(LessonMaker maker) {
        try {
            return random.nextInt(5) == 0 ? text(maker) : callAny(maker);
        } catch (NoSuchElementException e) {
            return Long.MAX_VALUE;
        }
    }

    private long text(LessonMaker maker) {
        String text = TEXTS[random.nextInt(TEXTS.length)];
        maker.program(0);
        Check.feed(maker, text);
        return maker.program(text.length() - (random.nextInt(6) == 0 ? random.nextInt(9) : 0));
    }

    private long callAny(LessonMaker maker) {
        switch (random.nextInt(26)) {
            case 0: return maker.feed(any(), any(), any(), any(), any());
            case 1: return random.nextInt(6) == 0 ? maker.program(any()) : maker.count(0);
            case 2: return maker.fault();
            case 3: return maker.where();
            case 4: return maker.function(any(), any());
            case 5: return maker.name(any(), any());
            case 6: return maker.line(any(), any());
            case 7: return maker.run(any(), any(), any(), any(), any());
            case 8: return maker.run(0, any(), any(), any(), 1 + random.nextInt(2000));
            case 9: return maker.ran(any());
            case 10: return maker.said(any());
            case 11: return maker.trace(any(), any());
            case 12: return maker.covered(any());
            case 13: return maker.place(any());
            case 14: return maker.wrong(any(), any(), any(), any(), any());
            case 15: return maker.unlike(any(), any(), any(), any());
            case 16: return maker.order();
            case 17: return maker.chapter(any());
            case 18: return maker.tell(any(), any(), any(), any());
            case 19: return maker.shown();
            case 20: return maker.fewest();
            case 21: return maker.picked(any());
            case 22: return maker.anew(any());
            case 23: return maker.gone();
            case 24: return maker.count(any());
            default: return maker.trouble();
        }
    }
}
