import java.lang.reflect.InvocationTargetException;
import java.lang.reflect.Method;
import java.util.ArrayList;
import java.util.Arrays;
import java.util.Collections;
import java.util.List;
import java.util.Random;

/**
 * All promises together: objects live through 512 calls by chance, from fixed seeds, among them texts
 * that grow out of one another and texts with FAULTS, and each answer is held against Plain's.
 */
final class WholeLifeTest {
    private static final int LIVES = 600;
    private static final int CALLS = 512;
    private static final int[] EDGES = {-1, 8, 9, 10, 11, 12, 58, 59, 60, 61, 398, 399, 400, 401, 599, 600, 601,
        1999, 2000, 2001, Integer.MIN_VALUE, Integer.MAX_VALUE};
    private static final String[] ASKED = {"fault", "where", "function", "name", "line", "run", "run", "run",
        "ran", "ran", "ran", "said", "said", "trace", "trace", "trace", "covered", "place", "wrong", "unlike",
        "order", "chapter", "tell", "tell", "tell", "shown", "fewest", "picked", "anew", "anew", "gone", "count",
        "trouble", "trouble", "where"};

    private final LessonMaker maker = new LessonMaker();
    private final Plain plain = new Plain();
    private final Random random;
    private final Model.Maker texts;
    private List<Model.Function> functions = new ArrayList<>();
    private final StringBuilder tale = new StringBuilder();
    private int calls;

    private WholeLifeTest(long seed) {
        random = new Random(seed);
        texts = new Model.Maker(seed);
        tale.append("life ").append(seed).append(':');
    }

    public static void main(String[] args) {
        int[] met = new int[6];
        for (long seed = 1; seed <= LIVES; seed++) {
            WholeLifeTest life = new WholeLifeTest(seed);
            while (life.calls < CALLS) {
                life.goOn();
                met[life.plain.trouble()]++;
            }
        }
        for (int trouble = 0; trouble < met.length; trouble++) {
            Check.due("TROUBLE " + trouble + " is met often", met[trouble] >= 100 ? 1 : 0, 1);
        }
        Check.end();
    }

    private void goOn() {
        int way = random.nextInt(400);
        if (way == 0) {
            fill();
        } else if (way < 10 || plain.count(0) == 0 && way < 200) {
            grow();
        } else {
            askAny();
        }
    }

    private void askAny() {
        String name = ASKED[random.nextInt(ASKED.length)];
        int[] most = mostOf(name);
        int[] numbers = new int[methodOf(LessonMaker.class, name).getParameterCount()];
        for (int i = 0; i < numbers.length; i++) {
            boolean near = i < most.length && random.nextInt(8) != 0;
            numbers[i] = near ? random.nextInt(Math.max(1, most[i])) : number();
        }
        if (name.equals("run") && random.nextInt(8) != 0) {
            numbers[4] = 1 + random.nextInt(random.nextBoolean() ? 2000 : 40);
        }
        call(name, numbers);
    }

    /** Below which a call's first numbers are mostly such as there are. */
    private int[] mostOf(String name) {
        int functions = plain.count(0);
        switch (name) {
            case "function": return new int[] {functions, 4};
            case "name": return new int[] {functions, 4};
            case "line": return new int[] {plain.count(1), 4};
            case "covered": return new int[] {plain.count(1)};
            case "wrong": return new int[] {4, functions};
            case "ran": return new int[] {6};
            case "said": return new int[] {1 + random.nextInt(random.nextBoolean() ? 4 : 62)};
            case "trace": return new int[] {1 + random.nextInt(random.nextBoolean() ? 20 : 402), 4};
            case "place": return new int[] {8};
            case "picked": return new int[] {3};
            case "count": return new int[] {4};
            case "run": case "unlike": case "tell": case "chapter": case "anew": return new int[] {functions};
            default: return new int[0];
        }
    }

    private int number() {
        int way = random.nextInt(16);
        return way == 0 ? random.nextInt() : way < 3 ? EDGES[random.nextInt(EDGES.length)]
                : way < 6 ? random.nextInt(60) : random.nextInt(10) - 2;
    }

    /** Feeds until there is no room, and once more. */
    private void fill() {
        for (int more = 0; more < 31 && plain.count(3) <= 580; more++) {
            call("feed", 0x20202020, 0x20202020, 0x0a0a0a0a, 0x20202020, 0x20202020);
        }
        call("feed", number(), number(), number(), number(), number());
        call("trouble");
    }

    /** A text that is like the one ahead of it, or a new one; at times with a FAULT. */
    private void grow() {
        if (plain.count(3) > 0 && random.nextInt(4) != 0) {
            call("program", 0);
        } else if (random.nextInt(8) == 0) {
            call("program", number());
        }
        String text = random.nextInt(4) == 0 ? GrammarTest.nearly(random, text()) : text();
        if (text.length() > 600) {
            return;
        }
        int behind = plain.count(3);
        for (int i = 0; i < text.length(); i += 20) {
            call("feed", Check.four(text, i), Check.four(text, i + 4), Check.four(text, i + 8),
                    Check.four(text, i + 12), Check.four(text, i + 16));
        }
        call("program", behind + text.length());
        call("fault");
        call("where");
    }

    private String text() {
        boolean isNew = functions.isEmpty() || random.nextInt(4) == 0;
        if (isNew) {
            texts.pickNames(1 + random.nextInt(random.nextInt(10) + 1));
            functions = new ArrayList<>(Collections.nCopies(texts.names.size(), null));
        }
        for (int f = 0; f < functions.size(); f++) {
            if (!isNew && random.nextInt(8) == 0) {
                texts.names.set(f, texts.names.get(f).substring(0, 1) + (char) ('a' + f) + "x");
            }
            boolean keep = !isNew && random.nextInt(4) != 0;
            functions.set(f, keep ? functions.get(f).named(texts.names.get(f)) : texts.function(f, sizeOf()));
        }
        for (int turn = 0; turn < 1000; turn++) {
            List<Model.Function> mixed = new ArrayList<>(functions);
            if (random.nextBoolean()) {
                Collections.shuffle(mixed, random);
            }
            Model.Program written = new Model.Writer(texts.names, random).write(mixed);
            if (written.text.length() <= 600 && written.lines.size() <= 60) {
                return written.text;
            }
            int f = random.nextInt(functions.size());
            functions.set(f, texts.function(f, 1));
        }
        return "def aa(){a=1}";
    }

    private int sizeOf() {
        return 1 + random.nextInt(functions.size() < 3 ? 4 : 2);
    }

    private static Method methodOf(Class<?> one, String name) {
        for (Method method : one.getDeclaredMethods()) {
            if (method.getName().equals(name)) {
                return method;
            }
        }
        throw new IllegalStateException("no call " + name);
    }

    private void call(String name, int... numbers) {
        if (calls == CALLS) {
            return;
        }
        calls++;
        tale.append(' ').append(name).append(Arrays.toString(numbers));
        String got = answerOf(maker, name, numbers);
        String want = answerOf(plain, name, numbers);
        boolean alike = got.equals(want);
        Check.due(alike ? "" : tale + " (" + got + ", not " + want + ")", alike ? 1 : 0, 1);
    }

    private static String answerOf(Object one, String name, int... numbers) {
        Object[] all = new Object[numbers.length];
        for (int i = 0; i < all.length; i++) {
            all[i] = numbers[i];
        }
        try {
            return String.valueOf(methodOf(one.getClass(), name).invoke(one, all));
        } catch (InvocationTargetException e) {
            return e.getCause().getClass().getName();
        } catch (IllegalAccessException e) {
            throw new IllegalStateException(e);
        }
    }
}
