/** Promises 23 (anew) and 24 (gone). */
final class GrowthTest {
    private static final String BASE = "def aa(){say bb()}def bb(){say cc()}def cc(){say 1}def dd(){say 2}";

    public static void main(String[] args) {
        dueAnew(null, BASE, 0, 2, 2, 2, 2);
        dueAnew(BASE, BASE, 0, 0, 0, 0, 0);
        dueAnew(BASE, BASE.replace("(", " ( ").replace("{", "\n{"), 0, 0, 0, 0, 0);
        dueAnew(BASE, BASE.replace("say 1", "say 3"), 0, 1, 1, 2, 0);
        dueAnew(BASE, BASE.replace("say 1", "say 01"), 0, 1, 1, 2, 0);
        dueAnew(BASE, BASE.replace("say 2", "say 2+0"), 0, 0, 0, 0, 2);
        dueAnew(BASE, BASE.replace("def bb()", "def bb( )"), 0, 0, 0, 0, 0);
        dueAnew(BASE, "def dd(){say 2}def cc(){say 1}def bb(){say cc()}def aa(){say bb()}", 0, 0, 0, 0, 0);
        dueAnew(BASE, BASE.replace("dd", "ee"), 1, 0, 0, 0, 2);
        dueAnew(BASE, "def cc(){say 1}", 3, 0);
        dueAnew(BASE, "def cc(){say dd()}def dd(){say 2}", 2, 2, 0);
        dueAnew(BASE, "def xx(){say 1}", 4, 2);
        dueAnew(BASE, "def aa(){say bb()}def bb(){say 7}", 2, 1, 2);
        dueAnew("def aa(a){say a}", "def aa(b){say b}", 0, 2);
        dueAnew("def aa(a){say a}", "def aa(a){say a;say a}", 0, 2);
        String ring = "def aa(){say bb()}def bb(){say aa()+cc()}def cc(){say 1}";
        dueAnew(ring, ring, 0, 0, 0, 0);
        dueAnew(ring, ring.replace("say 1", "say 4"), 0, 1, 1, 2);
        dueAnew(ring, ring.replace("def aa(){say", "def aa(){return"), 0, 2, 1, 0);
        besideTheLatestOnly();
        wrongNumbers();
        Check.end();
    }

    private static void dueAnew(String before, String now, int gone, int... want) {
        LessonMaker maker = new LessonMaker();
        if (before != null) {
            Check.program(maker, before);
        }
        Check.due("program() of " + now, Check.program(maker, now), want.length);
        for (int f = 0; f < want.length; f++) {
            Check.due("anew(" + f + ") of " + now + " beside " + before, maker.anew(f), want[f]);
        }
        Check.due("gone() of " + now + " beside " + before, maker.gone(), gone);
    }

    private static void besideTheLatestOnly() {
        LessonMaker maker = Check.withProgram("def aa(){say 1}");
        Check.program(maker, "def bb(){say 1}");
        Check.due("gone()", maker.gone(), 1);
        Check.program(maker, "def aa(){say 1}def bb(){say 1}");
        Check.due("anew(0): it wasn't there just before", maker.anew(0), 2);
        Check.due("anew(1)", maker.anew(1), 0);
        Check.due("gone()", maker.gone(), 0);
        Check.program(maker, "def cc(");
        Check.due("a FAULT leaves anew(0)", maker.anew(0), 2);
        Check.program(maker, "def aa(){say 1}def bb(){say 1}");
        Check.due("anew(0)", maker.anew(0), 0);
        Check.due("anew(1)", maker.anew(1), 0);
    }

    private static void wrongNumbers() {
        LessonMaker maker = Check.withProgram("def aa(){say 1}");
        maker.run(5, 0, 0, 0, 1);
        int[] bad = {-1, 1, 10, Integer.MIN_VALUE, Integer.MAX_VALUE};
        for (int f : bad) {
            Check.due("anew(" + f + ")", maker.anew(f), -1);
        }
        Check.due("trouble() is the run's", maker.trouble(), 1);
    }
}
