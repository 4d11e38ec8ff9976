import java.io.IOException;
import java.lang.reflect.Constructor;
import java.lang.reflect.Field;
import java.lang.reflect.Method;
import java.lang.reflect.Modifier;
import java.nio.file.Files;
import java.nio.file.Path;
import java.util.NoSuchElementException;
import java.util.TreeSet;
import java.util.regex.Matcher;
import java.util.regex.Pattern;

/** The face of the class as the document lists it, and the rules of LANGUAGE.md that can be looked at. */
final class LanguageTest {
    private static final String[] FACE = {
        "anew(int)", "chapter(int)", "count(int)", "covered(int)", "fault()", "feed(int,int,int,int,int)",
        "fewest()", "function(int,int)", "gone()", "line(int,int)", "name(int,int)", "order()",
        "picked(int)", "place(int)", "program(int)", "ran(int)", "run(int,int,int,int,int)", "said(int)",
        "shown()", "tell(int,int,int,int)", "trace(int,int)", "trouble()", "unlike(int,int,int,int)",
        "where()", "wrong(int,int,int,int,int)"};

    // What the program has no need of, or the rules leave out.
    private static final String[] NEVER = {"\\bcatch\\b", "\\btry\\b", "\\bfinally\\b", "->", "::", "\\bassert\\b",
        "\\bsynchronized\\b", "Exact\\b", "\\bgetMessage\\b", "\\bpackage\\b", "\\bhashCode\\b", "\\btoString\\b",
        "\\bObject\\b", "\\bThread\\b", "\\bRandom\\b", "\\bdouble\\b", "\\bfloat\\b", "^\\s*static\\s*\\{",
        "_VALUE\\b", "[^\\x00-\\x7f]"};

    public static void main(String[] args) throws IOException {
        face();
        faceInTheDocument();
        classes();
        source();
        Check.end();
    }

    private static void face() {
        TreeSet<String> want = new TreeSet<>();
        for (String call : FACE) {
            want.add(call);
        }
        TreeSet<String> got = new TreeSet<>();
        for (Method method : LessonMaker.class.getDeclaredMethods()) {
            if (Modifier.isPublic(method.getModifiers())) {
                StringBuilder call = new StringBuilder(method.getName()).append('(');
                for (Class<?> type : method.getParameterTypes()) {
                    call.append(call.charAt(call.length() - 1) == '(' ? "" : ",").append(type.getName());
                }
                got.add(call.append(')').toString());
                due(method + " answers an int", method.getReturnType() == int.class);
                boolean throwsIt = "name said trace".contains(method.getName());
                due(method + " says what it throws", method.getExceptionTypes().length == (throwsIt ? 1 : 0)
                        && (!throwsIt || method.getExceptionTypes()[0] == NoSuchElementException.class));
            } else {
                due(method + " is private", Modifier.isPrivate(method.getModifiers()));
            }
        }
        due("the face is " + got, got.equals(want));
        due("the class is public and final", LessonMaker.class.getModifiers() == (Modifier.PUBLIC | Modifier.FINAL));
        Constructor<?>[] makers = LessonMaker.class.getDeclaredConstructors();
        due("one public constructor without parameters", makers.length == 1
                && makers[0].getParameterCount() == 0 && Modifier.isPublic(makers[0].getModifiers()));
        for (Field field : LessonMaker.class.getDeclaredFields()) {
            boolean isNone = field.getName().equals("NONE") && Modifier.isPublic(field.getModifiers());
            due(field + " is private", isNone || Modifier.isPrivate(field.getModifiers()));
        }
    }

    /** Each line of the document's face stands in the source word for word, in the document's order. */
    private static void faceInTheDocument() throws IOException {
        String document = Files.readString(Path.of("../shared/DOC.md"));
        String source = Files.readString(Path.of("src/main/java/LessonMaker.java"));
        int block = document.indexOf("```java");
        String[] lines = document.substring(block, document.indexOf("```", block + 3)).split("\n");
        int at = 0;
        int found = 0;
        for (String line : lines) {
            String words = line.strip();
            if (!words.endsWith(";") && !words.startsWith("public")) {
                continue;
            }
            String written = words.endsWith(");") || words.endsWith("Exception;") && words.contains("(")
                    ? words.substring(0, words.length() - 1) + " {" : words;
            due("the source has behind the others: " + written, source.indexOf(written, at) >= 0);
            at = Math.max(at, source.indexOf(written, at));
            found++;
        }
        due("the document's face is found", found == FACE.length + 4);
    }

    private static void classes() {
        Class<?>[] inside = LessonMaker.class.getDeclaredClasses();
        due("at most some twelve classes", inside.length < 12);
        look(LessonMaker.class);
        for (Class<?> one : inside) {
            due(one + " is static", Modifier.isStatic(one.getModifiers()));
            look(one);
        }
    }

    private static void look(Class<?> one) {
        TreeSet<String> names = new TreeSet<>();
        for (String call : FACE) {
            names.add(call.substring(0, call.indexOf('(')));
        }
        int fields = 0;
        for (Field field : one.getDeclaredFields()) {
            if (Modifier.isStatic(field.getModifiers())) {
                due(field + " is a constant", Modifier.isFinal(field.getModifiers())
                        && field.getType() == int.class);
            } else {
                fields++;
            }
        }
        due(one + " has at most some twenty fields: " + fields, fields <= 20);
        for (Method method : one.getDeclaredMethods()) {
            due(method + " takes at most seven", method.getParameterCount() <= 7);
            due(method + " bears no public one's name",
                    Modifier.isPublic(method.getModifiers()) || !names.contains(method.getName()));
        }
    }

    private static void source() throws IOException {
        String source = Files.readString(Path.of("src/main/java/LessonMaker.java"));
        String code = source.replaceAll("(?s)/\\*.*?\\*/", "").replaceAll("//[^\n]*", "");
        for (String pattern : NEVER) {
            Matcher matcher = Pattern.compile(pattern, Pattern.MULTILINE).matcher(code);
            due("the source has no " + pattern, !matcher.find());
        }
        dueAll(code, "import [^;]*", "import java\\.util\\.NoSuchElementException");
        dueAll(code, "throw new [^;]*", "throw new NoSuchElementException\\(\"[a-z ]*\"\\)");
        dueAll(code, "\\b(System|Math|Integer|Long|Arrays)\\.\\w+",
                "System\\.arraycopy|Math\\.(min|max)|(Integer|Long)\\.bitCount");
        int start = 0;
        String[] lines = source.split("\n");
        for (int i = 0; i < lines.length; i++) {
            due("at most 110 signs: " + lines[i], lines[i].length() <= 110);
            if (lines[i].matches("    (    )?\\w.*\\) (throws \\w+ )?\\{")) {
                start = i;
            } else if (lines[i].matches("    (    )?\\}")) {
                due("at most sixty lines: " + lines[start], i - start < 60);
                start = i;
            }
        }
    }

    private static void dueAll(String code, String pattern, String allowed) {
        Matcher matcher = Pattern.compile(pattern).matcher(code);
        while (matcher.find()) {
            due("the source may have " + matcher.group(), matcher.group().matches(allowed));
        }
    }

    private static void due(String what, boolean holds) {
        Check.due(what, holds ? 1 : 0, 1);
    }
}
