/**
 * The boundary cases that the document names of texts: Terms I and II, and promises 1 to 8. Each
 * method is of the sentence that it begins with, and stands alone for it.
 */
final class EdgesOfTextsTest {
    private static final String[] OWN_WORDS = {"def", "say", "return", "if", "else", "while"};

    public static void main(String[] args) {
        calls512();
        functions10();
        lines60();
        lines60OfAllFunctions();
        tape600();
        blanks();
        bytesThatBeginTokens();
        words();
        wholes();
        programs();
        places3();
        placesTwice();
        blocks();
        lines();
        tests();
        sums();
        terms();
        parts();
        placeWords();
        names();
        linesNumbered();
        firstFromTheLeft();
        leastOfOnePlace();
        formAtTheEnd();
        formAtAToken();
        twiceNames();
        twicePlaces();
        manyFunctions();
        manyLines();
        manyPlaces();
        manySums();
        manyBraces();
        manyBrackets();
        miscalled();
        miscalledBehindAll();
        noneIsMinusOne();
        newObject();
        feedBytes();
        feedFull();
        programBytes();
        programBytesOften();
        programCounts();
        programForgets();
        programRefused();
        programFaulty();
        faults();
        wheres();
        functionNumbers();
        nameBytes();
        lineNumbers();
        Check.end();
    }

    private static String body(String lines) {
        return "def aa(){" + lines + "}";
    }

    /** FUNCTIONS fa, fb, .. with one LINE each, of 13 bytes each. */
    private static String functions(int n) {
        StringBuilder text = new StringBuilder();
        for (int f = 0; f < n; f++) {
            text.append("def f").append((char) ('a' + f)).append("(){a=1}");
        }
        return text.toString();
    }

    private static String lines(int n) {
        return Check.times("a=1;", n - 1) + "a=1";
    }

    private static void dueSaid(String text, int... want) {
        LessonMaker maker = Check.withProgram(text);
        Check.due("END of " + text, maker.run(0, 0, 0, 0, 2000), 0);
        Check.due("SAID of " + text, maker.ran(2), want.length);
        for (int i = 0; i < want.length && i < maker.ran(2); i++) {
            Check.due("said(" + i + ") of " + text, maker.said(i), want[i]);
        }
    }

    // ---- Terms I

    private static void calls512() {
        Check.sentence("An object is used for at most 512 calls after it has been made");
        LessonMaker maker = new LessonMaker();
        String text = "def aa(a){while 1=1{say a;a=a+1}}";
        int calls = 0;
        for (int turn = 0; turn < 50; turn++) {
            Check.due("program()", Check.program(maker, text), 1);
            calls += 3;
            for (int i = 0; i < 6; i++) {
                Check.due("tell()", maker.tell(0, turn, 0, 0), i);
                calls++;
            }
            Check.due("unlike()", maker.unlike(0, turn, 0, 0), 1);
            calls++;
        }
        for (; calls < 511; calls++) {
            Check.due("run()", maker.run(0, calls, 0, 0, 2000), 1);
        }
        Check.due("the 512th call", maker.said(59), 510 + 59);
    }

    private static void functions10() {
        Check.sentence("FUNCTIONS 10");
        Check.dueFine(functions(1), 1);
        Check.dueFine(functions(9), 9);
        LessonMaker maker = Check.withProgram(functions(10));
        Check.due("count(0)", maker.count(0), 10);
        Check.due("function(9, 1)", maker.function(9, 1), 9);
        Check.due("name(9, 1)", maker.name(9, 1), 'j');
        Check.due("run(9)", maker.run(9, 0, 0, 0, 9), 0);
        Check.due("covered(9)", maker.covered(9), 1);
        Check.due("chapter(9)", maker.chapter(9), 9);
        Check.due("anew(9)", maker.anew(9), 2);
        Check.dueFault(functions(11), 3, 130);
    }

    private static void lines60() {
        Check.sentence("LINES 60 of a PROGRAM");
        Check.dueFine(body(lines(59)), 1);
        LessonMaker maker = Check.withProgram(body(lines(60)));
        Check.due("count(1)", maker.count(1), 60);
        Check.due("function(0, 2)", maker.function(0, 2), 60);
        Check.due("line(59, 2)", maker.line(59, 2), 9 + 59 * 4);
        Check.due("run", maker.run(0, 0, 0, 0, 60), 0);
        Check.due("ran(4)", maker.ran(4), 60);
        Check.due("covered(59)", maker.covered(59), 1);
        Check.dueFault(body(lines(61)), 3, 9 + 60 * 4);
    }

    private static void lines60OfAllFunctions() {
        Check.sentence("LINES 60 of a PROGRAM");
        String half = body(lines(30));
        Check.dueFine(half + "def bb(){" + lines(30) + "}", 2);
        Check.dueFault(half + "def bb(){" + lines(31) + "}", 3, half.length() + 9 + 30 * 4);
        LessonMaker maker = Check.withProgram(half + "def bb(){" + lines(30) + "}");
        Check.due("count(1)", maker.count(1), 60);
        Check.due("function(1, 1)", maker.function(1, 1), 30);
        Check.due("function(1, 2)", maker.function(1, 2), 30);
        Check.due("line(29, 1)", maker.line(29, 1), 0);
        Check.due("line(30, 1)", maker.line(30, 1), 1);
        Check.due("line(59, 1)", maker.line(59, 1), 1);
        Check.due("line(60, 1)", maker.line(60, 1), -1);
    }

    // ---- Terms II

    private static void tape600() {
        Check.sentence("THE TAPE has 600 bytes");
        String text = "def aa(){return 1" + Check.times("+1", 291) + "}";
        Check.due("the text's length", text.length(), 600);
        LessonMaker maker = Check.withProgram(text);
        Check.due("run", maker.run(0, 0, 0, 0, 1), 0);
        Check.due("ran(0)", maker.ran(0), 292);
        Check.feed(maker, text);
        Check.due("without its last byte", maker.program(599), -1);
        Check.due("fault()", maker.fault(), 1);
        Check.due("where()", maker.where(), 599);
        Check.dueFault(Check.times(" ", 599) + "x", 1, 599);
        Check.dueFault(Check.times(" ", 600), 1, 600);
        Check.dueFine(Check.times("\n", 587) + "def aa(){a=1}", 1);
        Check.dueFault(Check.times("(", 600), 1, 0);
    }

    private static void blanks() {
        Check.sentence("blanks, 32, and 10s part TOKENS and mean nothing else");
        String parted = " \n def \n aa\n( a\n,b ) { if a\n=\nb { say\n1 } else\n{ say(\n2\n)\n*\n3 } ;\n"
                + "return a } \n\n ";
        Check.dueFine(parted, 1);
        LessonMaker maker = Check.withProgram("def aa(a,b){if a=b{say 1}else{say(2)*3};return a}");
        Check.due("the same TOKENS", Check.program(maker, parted), 1);
        Check.due("anew(0)", maker.anew(0), 0);
        Check.dueFault("de f aa(){a=1}", 1, 0);
        Check.dueFault("def\naa(){sa\ny 1}", 1, 9);
        Check.dueFault(body("a=1 2"), 1, 13);
        Check.dueFault(body("a=1\n2"), 1, 13);
        Check.dueFault("def a a(){a=1}", 1, 4);
        Check.dueFault("def aa b(){a=1}", 1, 7);
        Check.dueFine("def aa(){say1;return(2)}", 1);
        Check.dueFine("def abcdefgh(){say 12345 ;\nsay abcdefgh ( )}", 1);
        for (int b = 0; b < 256; b++) {
            String text = (char) b + "def aa(){a=1}";
            if (b == 32 || b == 10) {
                Check.dueFine(text, 1);
            } else {
                Check.dueFault(text, 1, 0);
            }
        }
    }

    private static void bytesThatBeginTokens() {
        Check.sentence("single ones of ( ) { } , ; = < > + - *");
        for (int b = 0; b < 256; b++) {
            String text = "def aa(){say 1" + (char) b + "}";
            if (b == ' ' || b == '\n' || b >= '0' && b <= '9') {
                Check.dueFine(text, 1);
            } else {
                boolean goesOn = b == '+' || b == '-' || b == '*' || b == ';' || b == '}';
                Check.dueFault(text, 1, goesOn ? 15 : 14);
            }
        }
        // each sign where it may stand
        Check.dueFine("def aa(a,b){if(a)<b{say a+b-a*b;a=1};if a>b{a=1};while a=b{a=1}}", 1);
        Check.dueFault(body("a=1<=2"), 1, 12);
        Check.dueFault(body("if a==1{a=1}"), 1, 14);
        Check.dueFault(body("a=[1]"), 1, 11);
        Check.dueFault(body("a=1:b=2"), 1, 12);
        Check.dueFault(body("a=1?"), 1, 12);
        Check.dueFault(body("a=1.5"), 1, 12);
    }

    private static void words() {
        Check.sentence("WORDS of 1 to 8 small letters that stand together");
        Check.dueFine("def aa(a){a=1}", 1);
        Check.dueFine("def az(){a=1}def za(){a=1}def zz(){a=1}", 3);
        Check.dueFine("def abcdefgh(){a=1}", 1);
        Check.dueFault("def abcdefghi(){a=1}", 1, 4);
        Check.dueFault("def abcdefghabcdefgh(){a=1}", 1, 4);
        Check.dueFault("def" + Check.times("z", 597), 1, 0);
        Check.dueFine("def abcdefgh(){a=abcdefgh()}", 1);
        Check.dueFault("def abcdefgh(){a=abcdefghi()}", 1, 17);
        Check.dueFault("def abcdefgh (){a=abcdefgh i()}", 1, 27);
        Check.dueFault(body("returnss 1"), 1, 9);
        Check.dueFault(body("returnsss 1"), 1, 9);
        Check.dueFault("def aA(){a=1}", 1, 4);
        Check.dueFault("def Aa(){a=1}", 1, 4);
        Check.dueFault("def aa`(){a=1}", 1, 6);
        Check.dueFault("def a1(){a=1}", 1, 4);
        Check.dueFault("def a_a(){a=1}", 1, 4);
    }

    private static void wholes() {
        Check.sentence("WHOLES of 1 to 5 digits that do");
        dueSaid(body("say 0;say 9;say 10;say 99999;say 00000;say 00007;say 9+9999"), 0, 9, 10, 99999, 0, 7, 10008);
        Check.dueFault(body("say 100000"), 1, 13);
        Check.dueFault(body("say 000001"), 1, 13);
        Check.dueFault(body("say 1+123456"), 1, 15);
        Check.dueFault(body("say 1234567890"), 1, 13);
        Check.dueFault(body("say 12345 6"), 1, 19);
        Check.dueFault(body("say " + Check.times("9", 580)), 1, 13);
    }

    private static void programs() {
        Check.sentence("PROGRAM: FUNCTION {FUNCTION}");
        Check.dueFault("", 1, 0);
        Check.dueFault(" ", 1, 1);
        Check.dueFault(" \n\n ", 1, 4);
        Check.dueFine(functions(1), 1);
        Check.dueFine(functions(2), 2);
        Check.dueFault(functions(1) + ";" + functions(1), 1, 13);
        Check.dueFault(functions(1) + "fb(){a=1}", 1, 13);
        Check.dueFault("a=1", 1, 0);
    }

    private static void places3() {
        Check.sentence("def NAME ( [PLACE {, PLACE}] ) BLOCK, up to 3 PLACES");
        String[] rows = {"", "h", "h,a", "h,a,d"};
        for (int n = 0; n < rows.length; n++) {
            LessonMaker maker = Check.withProgram("def aa(" + rows[n] + "){return h*100+a*10+d}");
            Check.due("function(0, 0) of " + rows[n], maker.function(0, 0), n);
            maker.run(0, 1, 2, 3, 9);
            int[] want = {0, 100, 120, 123};
            Check.due("VALUE of " + rows[n], maker.ran(0), want[n]);
        }
        Check.dueFault("def aa(h,a,d,b){a=1}", 3, 13);
        Check.dueFault("def aa(,){a=1}", 1, 7);
        Check.dueFault("def aa(a,){a=1}", 1, 9);
        Check.dueFault("def aa(a,b,){a=1}", 1, 11);
        Check.dueFault("def aa(a b){a=1}", 1, 9);
        Check.dueFault("def aa((a)){a=1}", 1, 7);
        Check.dueFault("def aa{a=1}", 1, 6);
        Check.dueFault("def aa()", 1, 8);
    }

    private static void placesTwice() {
        Check.sentence("none twice");
        Check.dueFine("def aa(a,b){a=1}def bb(a,b){a=1}", 2);
        Check.dueFault("def aa(a,a){a=1}", 2, 9);
        Check.dueFault("def aa(h,b,h){a=1}", 2, 11);
        Check.dueFault("def aa(b,h,h){a=1}", 2, 11);
    }

    private static void blocks() {
        Check.sentence("BLOCK: { LINE {; LINE} } (the braces stand in the text)");
        Check.dueFine(body("a=1"), 1);
        Check.dueFine(body("a=1;a=1"), 1);
        Check.dueFault(body(""), 1, 9);
        Check.dueFault(body(";"), 1, 9);
        Check.dueFault(body("a=1;"), 1, 13);
        Check.dueFault(body(";a=1"), 1, 9);
        Check.dueFault(body("a=1;;a=1"), 1, 13);
        Check.dueFault(body("{a=1}"), 1, 9);
        Check.dueFault("def aa()a=1", 1, 8);
        Check.dueFault("def aa(){a=1", 1, 12);
        Check.dueFault(body("if 1=1{}"), 1, 16);
        Check.dueFault(body("if 1=1{a=1}else{}"), 1, 25);
        Check.dueFault(body("while 1=1{}"), 1, 19);
        Check.dueFault(body("if 1=1 a=1"), 1, 16);
        Check.dueFault(body("if 1=1{a=1} a=2"), 1, 21);
    }

    private static void lines() {
        Check.sentence("LINE: PLACE = SUM; say SUM; return SUM; if TEST BLOCK [else BLOCK]; while TEST BLOCK");
        Check.dueFine(body("a=1;say 1;return 1;if 1=1{a=1};if 1=1{a=1}else{a=1};while 1=1{a=1}"), 1);
        Check.dueFault(body("a"), 1, 10);
        Check.dueFault(body("a=;say 1"), 1, 11);
        Check.dueFault(body("say;say 1"), 1, 12);
        Check.dueFault(body("return"), 1, 15);
        Check.dueFault(body("if{a=1}"), 1, 11);
        Check.dueFault(body("while{a=1}"), 1, 14);
        Check.dueFault(body("else{a=1}"), 1, 9);
        Check.dueFault(body("while 1=1{a=1}else{a=1}"), 1, 23);
        Check.dueFault(body("if 1=1{a=1}else{a=1}else{a=1}"), 1, 29);
        Check.dueFault(body("if 1=1{a=1};else{a=1}"), 1, 21);
        Check.dueFault(body("if 1=1{a=1}else if 1=1{a=1}"), 1, 25);
        Check.dueFault(body("aa()"), 1, 9);
        Check.dueFault(body("1"), 1, 9);
        Check.dueFault(body("say a=1"), 1, 14);
    }

    private static void tests() {
        Check.sentence("TEST: SUM < SUM, SUM > SUM, SUM = SUM");
        dueSaid(body("if 1<2{say 1};if 2<2{say 2};if 3<2{say 3};if 1>2{say 4};if 2>2{say 5};if 3>2{say 6};"
                + "if 1=2{say 7};if 2=2{say 8};if 3=2{say 9}"), 1, 6, 8);
        Check.dueFault(body("if 1{a=1}"), 1, 13);
        Check.dueFault(body("if 1<{a=1}"), 1, 14);
        Check.dueFault(body("if <1{a=1}"), 1, 12);
        Check.dueFault(body("if 1<2<3{a=1}"), 1, 15);
        Check.dueFault(body("if 1<2=3{a=1}"), 1, 15);
        Check.dueFault(body("if (1<2){a=1}"), 1, 14);
        Check.dueFault(body("if 1+2{a=1}"), 1, 15);
    }

    private static void sums() {
        Check.sentence("SUM: TERM {+ TERM or - TERM}, from the left");
        dueSaid(body("say 9;say 9-3-2;say 9-3+2;say 9-(3-2);say 1-2"), 9, 4, 8, 8, -1);
        Check.dueFault(body("say -1"), 1, 13);
        Check.dueFault(body("say +1"), 1, 13);
        Check.dueFault(body("say 1-"), 1, 15);
        Check.dueFault(body("say 1--1"), 1, 15);
        Check.dueFault(body("say 1 1"), 1, 15);
    }

    private static void terms() {
        Check.sentence("TERM: PART {* PART}");
        dueSaid(body("say 2+3*4;say 2*3+4;say 2*3*4;say 9-2*3-1;say (2+3)*4"), 14, 10, 24, 2, 20);
        Check.dueFault(body("say *1"), 1, 13);
        Check.dueFault(body("say 1*"), 1, 15);
        Check.dueFault(body("say 1**1"), 1, 15);
        Check.dueFault(body("say 2(3)"), 1, 14);
    }

    private static void parts() {
        Check.sentence("PART: WHOLE, PLACE, ( SUM ), NAME ( [SUM {, SUM}] )");
        Check.dueFine("def aa(){say aa()+bb(1)+cc(1,2)+dd(1,2,3)}def bb(a){a=1}def cc(a,b){a=1}def dd(a,b,c){a=1}", 4);
        Check.dueFault(body("say ()"), 1, 14);
        Check.dueFault(body("say (1"), 1, 15);
        Check.dueFault(body("say 1)"), 1, 14);
        Check.dueFault(body("say (1,2)"), 1, 15);
        Check.dueFault(body("say aa"), 1, 15);
        Check.dueFault(body("say aa(,)"), 1, 16);
        Check.dueFault(body("say aa(1,)"), 1, 18);
        Check.dueFault(body("say aa(1 2)"), 1, 18);
        Check.dueFault(body("say a(1)"), 1, 14);
        Check.dueFault(body("say {1}"), 1, 13);
        Check.dueFault(body("say say 1"), 1, 13);
    }

    private static void placeWords() {
        Check.sentence("PLACE: a WORD a .. h");
        for (char c = 'a'; c <= 'z'; c++) {
            String[] texts = {"def aa(" + c + "){a=1}", "def aa(){" + c + "=1}", "def aa(){a=" + c + "}"};
            int[] at = {7, 9, 11};
            for (int i = 0; i < texts.length; i++) {
                if (c <= 'h') {
                    Check.dueFine(texts[i], 1);
                } else {
                    Check.dueFault(texts[i], 1, at[i]);
                }
            }
        }
        Check.dueFault("def aa(ab){a=1}", 1, 7);
        Check.dueFault("def aa(){ab=1}", 1, 9);
        Check.dueFault("def aa(){a=ab}", 1, 13);
    }

    private static void names() {
        Check.sentence("NAME: a WORD of 2 letters and more that isn't def, say, return, if, else, while");
        for (char c = 'a'; c <= 'z'; c++) {
            Check.dueFault("def " + c + "(){a=1}", 1, 4);
            Check.dueFine("def " + c + c + "(){a=" + c + c + "()}", 1);
        }
        for (String word : OWN_WORDS) {
            Check.dueFault("def " + word + "(){a=1}", 1, 4);
            Check.dueFault(body("a=" + word + "()"), 1, 11);
            Check.dueFine("def " + word + "x(){a=" + word + "x()}", 1);
            Check.dueFine("def x" + word + "(){a=x" + word + "()}", 1);
            String shorter = word.substring(1);
            if (shorter.length() > 1) {
                Check.dueFine("def " + shorter + "(){a=" + shorter + "()}", 1);
            }
        }
        Check.dueFault("def 12(){a=1}", 1, 4);
        Check.dueFault("def (){a=1}", 1, 4);
    }

    private static void linesNumbered() {
        Check.sentence("LINES are numbered by their first TOKENS");
        String text = "def aa(){while a<1{if a=0{a=1}else{say 2;return 3}};say 4}def bb(){say 5}";
        LessonMaker maker = Check.withProgram(text);
        String[] firsts = {"while", "if", "a=1", "say 2", "return", "say 4", "say 5"};
        int[] blocks = {1, 2, 3, 3, 3, 1, 1};
        Check.due("count(1)", maker.count(1), firsts.length);
        for (int l = 0; l < firsts.length; l++) {
            Check.due("line(" + l + ", 2)", maker.line(l, 2), text.indexOf(firsts[l]));
            Check.due("line(" + l + ", 3)", maker.line(l, 3), blocks[l]);
            Check.due("line(" + l + ", 1)", maker.line(l, 1), l < 6 ? 0 : 1);
        }
    }

    // ---- FAULTS

    private static void firstFromTheLeft() {
        Check.sentence("FAULTS, the first that is met from the left");
        // each FAULT ahead of each other one
        Check.dueFault("def aa(a,a){a=1;}", 2, 9);
        Check.dueFault("def aa(i,a,a){a=1}", 1, 7);
        Check.dueFault("def aa(a,b,c,d,d){a=1}", 3, 13);
        Check.dueFault("def aa(a,a,b,c){a=1}", 2, 9);
        Check.dueFault("def aa(a,b,c,d){}", 3, 13);
        Check.dueFault("def aa(){}def aa(){a=1}", 1, 9);
        Check.dueFault("def aa(){a=1}def aa(){}", 2, 17);
        Check.dueFault(body("a=aa(1,2,3,4)") + "$", 3, 20);
        Check.dueFault("$def aa(a,a){a=1}", 1, 0);
        Check.dueFault("def aa(a,a){a=$}", 2, 9);
        Check.dueFault("def aa(a){a=}$", 1, 12);
    }

    private static void leastOfOnePlace() {
        Check.sentence("of one place the least number");
        // a fourth PLACE that is there: 2 and 3
        Check.dueFault("def aa(a,b,c,a){a=1}", 2, 13);
        Check.dueFault("def aa(a,b,c,c){a=1}", 2, 13);
        Check.dueFault("def aa(a,b,c,d){a=1}", 3, 13);
        // a fourth PLACE, SUM, or a 61st LINE that can be none: 1 and 3
        Check.dueFault("def aa(a,b,c,aa){a=1}", 1, 13);
        Check.dueFault(body("a=aa(1,2,3,*)"), 1, 20);
        Check.dueFault(body(lines(60) + ";aa()"), 1, 9 + 240);
    }

    private static void formAtTheEnd() {
        Check.sentence("(the end: its place)");
        String[] tokens = {"def ", "aa ", "( ", "a ", ", ", "b ", ") ", "{ ", "if ", "a ", "< ", "b ", "{ ", "say ",
            "( ", "aa ", "( ", "1 ", ", ", "2 ", ") ", ") ", "} ", "else ", "{ ", "while ", "1 ", "= ", "2 ", "{ ",
            "return ", "3 ", "* ", "4 ", "} ", "; ", "c ", "= ", "5 ", "} ", "} "};
        StringBuilder text = new StringBuilder();
        for (String token : tokens) {
            String open = text.toString();
            Check.dueFault(open, 1, open.length());
            Check.dueFault(open + "\n\n ", 1, open.length() + 3);
            if (!open.isEmpty()) {
                Check.dueFault(open.substring(0, open.length() - 1), 1, open.length() - 1);
            }
            text.append(token);
        }
        Check.dueFine(text.toString(), 1);
        LessonMaker maker = new LessonMaker();
        Check.feed(maker, text.toString());
        Check.due("program() of a part", maker.program(text.length() - 3), -1);
        Check.due("the end is that of the n bytes", maker.where(), text.length() - 3);
    }

    private static void formAtAToken() {
        Check.sentence("1 FORM: the first byte that begins no TOKEN, or TOKEN with which no PROGRAM goes on");
        Check.dueFault("@", 1, 0);
        Check.dueFault(body("a=1@"), 1, 12);
        Check.dueFault(body("a=1\t"), 1, 12);
        Check.dueFault(body("a=1") + "\r", 1, 13);
        Check.dueFault(body("a=1") + "\u0000", 1, 13);
        Check.dueFault(body("a=1") + "\u0080", 1, 13);
        Check.dueFault(body("a=1") + "\u00ff", 1, 13);
        Check.dueFault(body("a=1") + "}", 1, 13);
        Check.dueFault("aa(){a=1}", 1, 0);
        Check.dueFault("def def aa(){a=1}", 1, 4);
        // a TOKEN that is wrong is met ahead of a byte behind it
        Check.dueFault("def aa(a=1){@}", 1, 8);
    }

    private static void twiceNames() {
        Check.sentence("2 TWICE: a FUNCTION's NAME, or a PLACE in its ( ), that is there; at it");
        Check.dueFault("def aa(){a=1}def aa(){a=1}", 2, 17);
        Check.dueFault("def aa(){a=1}def aa", 2, 17);
        Check.dueFault("def aa(){a=1}def bb(){a=1}def aa(", 2, 30);
        Check.dueFault("def abcdefgh(){a=1}def abcdefgh(){a=1}", 2, 23);
        Check.dueFine("def abcdefgh(){a=1}def abcdefgg(){a=1}def abcdefg(){a=1}def bbcdefgh(){a=1}", 4);
        Check.dueFine("def aa(){a=bb()}def bb(){a=1}", 2);
        String nine = functions(9);
        Check.dueFault(nine + "def fi(){a=1}", 2, nine.length() + 4);
        Check.dueFault(nine + "def fa(){a=1}", 2, nine.length() + 4);
        // what a refused text named isn't there
        LessonMaker maker = new LessonMaker();
        Check.due("a FAULT", Check.program(maker, "def aa(){a=1}def bb("), -1);
        Check.due("program()", Check.program(maker, "def bb(){a=1}def aa(){a=1}"), 2);
        Check.due("program() again", Check.program(maker, "def bb(){a=1}def aa(){a=1}"), 2);
    }

    private static void twicePlaces() {
        Check.sentence("2 TWICE: a FUNCTION's NAME, or a PLACE in its ( ), that is there; at it");
        Check.dueFault("def aa(a,a", 2, 9);
        Check.dueFault("def aa(a , b , a ){a=1}", 2, 15);
        Check.dueFine("def aa(a,b,c){a=1}def bb(c,a,b){a=1}def cc(a){a=a;a=a}", 3);
        Check.dueFault("def aa(a,b,c){a=1}def bb(c,a,c){a=1}", 2, 29);
    }

    private static void manyFunctions() {
        Check.sentence("3 MANY: an 11th FUNCTION (at its def)");
        String ten = functions(10);
        Check.dueFine(ten + "\n ", 10);
        Check.dueFault(ten + "def fk(){a=1}", 3, 130);
        Check.dueFault(ten + "\n def", 3, 132);
        Check.dueFault(ten + "def fa(){a=1}", 3, 130);
        Check.dueFault(ten + "def 1", 3, 130);
        Check.dueFault(ten + "fk(){a=1}", 1, 130);
        Check.dueFault(ten + "@", 1, 130);
        Check.dueFault(ten + "defx", 1, 130);
    }

    private static void manyLines() {
        Check.sentence("a 61st LINE (at its first TOKEN, if it may stand there, else 1)");
        String sixty = lines(60);
        String[] may = {"a=1", "h=1", "say 1", "return 1", "if 1=1{a=1}", "while 1=1{a=1}", "a", "say", "if",
            "while @"};
        for (String line : may) {
            Check.dueFault(body(sixty + ";" + line), 3, 9 + 240);
            Check.dueFault(body(sixty + "; \n" + line), 3, 9 + 242);
        }
        String[] mayNot = {"i=1", "aa()", "else{a=1}", "def", "1", "(", "{a=1}", "", ";", "@", "says 1", "abcdefghi"};
        for (String line : mayNot) {
            Check.dueFault(body(sixty + ";" + line), 1, 9 + 240);
        }
        Check.dueFault("def aa(){" + sixty + ";", 1, 9 + 240);
        // the 61st within a BLOCK, an else's, and another FUNCTION's
        String within = lines(59) + ";if 1=1{a=1}";
        Check.dueFault(body(within), 3, 9 + 236 + 7);
        String other = lines(58) + ";if 1=1{a=1}else{a=1}";
        Check.dueFault(body(other), 3, 9 + 232 + 16);
        Check.dueFault(body(sixty) + "def bb(){a=1}", 3, 249 + 9);
        Check.dueFault(body(sixty) + "def bb(){}", 1, 249 + 9);
        Check.dueFine(body(sixty), 1);
    }

    private static void manyPlaces() {
        Check.sentence("a fourth PLACE or SUM in ( ) (at its first TOKEN, likewise)");
        Check.dueFine("def aa(a,b,c){a=1}", 1);
        Check.dueFault("def aa(a,b,c, d){a=1}", 3, 14);
        Check.dueFault("def aa(a,b,c,h", 3, 13);
        String[] mayNot = {"i", "aa", "1", ")", ",", "say", "@", ""};
        for (String place : mayNot) {
            Check.dueFault("def aa(a,b,c," + place, 1, 13);
        }
        Check.dueFault("def aa(a,b,c d){a=1}", 1, 13);
        // three and three of two FUNCTIONS
        Check.dueFine("def aa(a,b,c){a=1}def bb(d,e,f){a=1}", 2);
    }

    private static void manySums() {
        Check.sentence("a fourth PLACE or SUM in ( ) (at its first TOKEN, likewise)");
        String three = "def aa(a,b,c){say aa(1,2,3";
        Check.dueFine(three + ")}", 1);
        String[] may = {"4", "a", "(4)", "aa(1,2,3)", "aa", "(", "4 4"};
        for (String sum : may) {
            Check.dueFault(three + "," + sum + ")}", 3, 27);
            Check.dueFault(three + ",\n" + sum + ")}", 3, 28);
        }
        String[] mayNot = {"i", "say", "-1", "*", "", ",", "@", "{", "123456"};
        for (String sum : mayNot) {
            Check.dueFault(three + "," + sum + ")}", 1, 27);
        }
        // SUMS of calls within SUMS are counted for each call
        Check.dueFine("def aa(a,b,c){say aa(aa(1,2,3),aa(1,2,3),aa(1,2,3)+aa(1,2,3))}", 1);
        Check.dueFault("def aa(a,b,c){say aa(aa(1,2,3,4),2,3)}", 3, 30);
        // of one that is no FUNCTION's, and of one with fewer PLACES
        Check.dueFault(body("say bb(1,2,3,4)"), 3, 22);
        Check.dueFault(body("say aa(1,2,3,4)"), 3, 22);
    }

    private static void manyBraces() {
        Check.sentence("a seventh { within others");
        String[] heads = {"if 1=1{", "while 1=1{"};
        for (String head : heads) {
            String five = Check.times(head, 5);
            Check.dueFine(body(five + "a=1" + Check.times("}", 5)), 1);
            LessonMaker maker = Check.withProgram(body(five + "a=1" + Check.times("}", 5)));
            Check.due("line(5, 3)", maker.line(5, 3), 6);
            int at = 9 + 6 * head.length() - 1;
            Check.dueFault(body(five + head + "a=1" + Check.times("}", 6)), 3, at);
            Check.dueFault(body(five + head), 3, at);
            Check.dueFault(body(five + head.replace("{", "")), 1, at);
        }
        String four = Check.times("if 1=1{", 4);
        // seven of them, but not within one another
        Check.dueFine(body(four + "if 1=1{a=1}else{a=1};if 1=1{a=1}" + Check.times("}", 4)), 1);
        Check.dueFault(body(four + "if 1=1{a=1}else{if 1=1{a=1}}" + Check.times("}", 4)), 3, 9 + 28 + 16 + 6);
        Check.dueFault(body(four + "if 1=1{if 1=1@"), 1, 9 + 28 + 13);
        String five = Check.times("if 1=1{", 5);
        Check.dueFault(body(five + "if 1=1{a=1}else{a=1}"), 3, 9 + 35 + 6);
    }

    private static void manyBrackets() {
        Check.sentence("a seventh ( of SUMS within others (at it)");
        Check.dueFine(body("say ((((((1))))))"), 1);
        Check.dueFault(body("say (((((((1)))))))"), 3, 19);
        Check.dueFault(body("say ((((((("), 3, 19);
        Check.dueFault(body("say 1+2*((((((3-(4)))))))"), 3, 25);
        Check.dueFault(body("say ((((((1("), 1, 20);
        // in each SUM of a LINE
        String[] heads = {"a=", "say", "return", "if ", "if 1=", "while ", "while 1>"};
        String[] tails = {"", "", "", "<1{a=1}", "{a=1}", "<1{a=1}", "{a=1}"};
        for (int i = 0; i < heads.length; i++) {
            Check.dueFine(body(heads[i] + "((((((1))))))" + tails[i]), 1);
            Check.dueFault(body(heads[i] + "(((((((1)))))))" + tails[i]), 3, 9 + heads[i].length() + 6);
        }
        // a call's are such ones too
        Check.dueFine("def aa(a){say aa(aa(aa(aa(aa(aa(1))))))}", 1);
        Check.dueFault("def aa(a){say aa(aa(aa(aa(aa(aa(aa(1)))))))}", 3, 34);
        Check.dueFine(body("say (((((aa())))))"), 1);
        Check.dueFault(body("say ((((((aa()))))))"), 3, 21);
        Check.dueFault(body("say ((((((aa))))))"), 1, 21);
        // those of other SUMS, and of a FUNCTION's PLACES, are not others around it
        String six = "((((((1))))))";
        Check.dueFine("def aa(a){say" + six + "*" + six + "-aa((((((1))))));if" + six + "=" + six + "{a=" + six + "}}", 1);
    }

    private static void miscalled() {
        Check.sentence("the first NAME called, from the left, that is no FUNCTION's, or with another number of SUMS "
                + "than it has PLACES: 4, at it");
        String[] places = {"", "a", "a,b", "a,b,c"};
        String[] sums = {"", "1", "1,2", "1,2,3"};
        for (int p = 0; p < places.length; p++) {
            for (int s = 0; s < sums.length; s++) {
                String text = "def aa(" + places[p] + "){say aa(" + sums[s] + ")}";
                if (p == s) {
                    Check.dueFine(text, 1);
                } else {
                    Check.dueFault(text, 4, text.indexOf("say") + 4);
                }
            }
        }
        Check.dueFault(body("say ab()"), 4, 13);
        Check.dueFault(body("say aaa()"), 4, 13);
        Check.dueFine("def aa(){say bb()}def bb(){a=1}", 2);
        // the first from the left, within others too
        Check.dueFault("def aa(a){say aa(bb());say cc()}", 4, 17);
        Check.dueFault("def aa(a){say bb(aa());say cc()}", 4, 14);
        Check.dueFault("def aa(a){say aa(aa(1))+aa(aa())}", 4, 27);
        Check.dueFault("def aa(a){say aa(1)}def bb(){say aa(1)+aa(1,2)}", 4, 39);
    }

    private static void miscalledBehindAll() {
        Check.sentence("Behind a whole text without these");
        Check.dueFault(body("say bb()") + "def aa(){a=1}", 2, 22);
        Check.dueFault(body("say bb();"), 1, 18);
        Check.dueFault(body("say bb()") + " x", 1, 19);
        Check.dueFault(body("say bb();say cc(1,2,3,4)"), 3, 31);
        Check.dueFault(body("say bb();say (((((((1"), 3, 28);
        Check.dueFault(body("say bb();" + lines(60)), 3, 18 + 59 * 4);
        Check.dueFault(body("say bb()") + functions(10), 3, 18 + 117);
    }

    // ---- promises

    private static void noneIsMinusOne() {
        Check.sentence("`NONE = -1`: There is none; refused.");
        Check.due("NONE", LessonMaker.NONE, -1);
        LessonMaker maker = new LessonMaker();
        Check.due("there is none", maker.line(0, 0), LessonMaker.NONE);
        Check.due("refused", maker.tell(0, 0, 0, 0), LessonMaker.NONE);
    }

    private static void newObject() {
        Check.sentence("LessonMaker()`: No PROGRAM.");
        LessonMaker maker = new LessonMaker();
        Check.due("trouble()", maker.trouble(), 0);
        for (int what = 0; what < 4; what++) {
            Check.due("count(" + what + ")", maker.count(what), 0);
            Check.due("function(0, " + what + ")", maker.function(0, what), -1);
            Check.due("line(0, " + what + ")", maker.line(0, what), -1);
            int part = what;
            Check.dueNoSuch("trace(0, " + what + ")", () -> maker.trace(0, part));
        }
        Check.due("fault()", maker.fault(), 0);
        Check.due("where()", maker.where(), -1);
        Check.dueNoSuch("name(0, 0)", () -> maker.name(0, 0));
        Check.dueNoSuch("said(0)", () -> maker.said(0));
        Check.due("covered(0)", maker.covered(0), -1);
        Check.due("order()", maker.order(), -2);
        Check.due("chapter(0)", maker.chapter(0), -1);
        Check.due("picked(0)", maker.picked(0), -1);
        Check.due("shown()", maker.shown(), 0);
        Check.due("fewest()", maker.fewest(), 0);
        Check.due("picked(0) behind fewest()", maker.picked(0), -1);
        Check.due("anew(0)", maker.anew(0), -1);
        Check.due("gone()", maker.gone(), 0);
        Check.due("trouble() behind these", maker.trouble(), 0);
        Check.dueRefused("run(0, ..)", maker, maker.run(0, 0, 0, 0, 1), 1);
        Check.dueRefused("ran(0)", maker, maker.ran(0), 5);
        Check.dueRefused("wrong(0, 0, ..)", maker, maker.wrong(0, 0, 0, 0, 0), 1);
        Check.dueRefused("place(0)", maker, maker.place(0), 5);
        Check.dueRefused("unlike(0, ..)", maker, maker.unlike(0, 0, 0, 0), 1);
        Check.dueRefused("program(1)", maker, maker.program(1), 2);
        Check.dueRefused("tell(0, ..)", maker, maker.tell(0, 0, 0, 0), 1);
    }

    private static void feedBytes() {
        Check.sentence("Twenty bytes come behind THE TAPE, of each number the highest first: how many it has");
        LessonMaker maker = new LessonMaker();
        // "def abcdefgh(){a=1}*", then twenty bytes of 255
        Check.dueTaken("feed", maker, maker.feed(0x64656620, 0x61626364, 0x65666768, 0x28297b61, 0x3d317d2a), 20);
        Check.dueTaken("feed", maker, maker.feed(-1, -1, -1, -1, -1), 40);
        Check.due("count(3)", maker.count(3), 40);
        Check.due("program(19)", maker.program(19), 1);
        for (int i = 0; i < 8; i++) {
            Check.due("name(0, " + i + ")", maker.name(0, i), 'a' + i);
        }
        // each of the four bytes of each number by a fault at it
        for (int at = 0; at < 20; at++) {
            int[] numbers = {0x20202020, 0x20202020, 0x20202020, 0x20202020, 0x20202020};
            numbers[at / 4] ^= (0x20 ^ 0x80) << 24 - at % 4 * 8;
            maker.feed(0x20202020, 0x20202020, 0x20202020, 0x20202020, 0x20202020);
            maker.feed(numbers[0], numbers[1], numbers[2], numbers[3], numbers[4]);
            Check.due("program(40)", maker.program(40), -1);
            Check.due("where() of byte " + at, maker.where(), 20 + at);
        }
    }

    private static void feedFull() {
        Check.sentence("NONE, and none comes, if there would be more than 600");
        LessonMaker maker = new LessonMaker();
        String text = Check.times(" ", 587) + "def aa(){a=1}";
        for (int i = 0; i < 30; i++) {
            Check.dueTaken("feed " + i, maker, Check.feed(maker, text.substring(i * 20, i * 20 + 20)), i * 20 + 20);
        }
        for (int i = 0; i < 3; i++) {
            Check.dueRefused("feed of 620", maker, maker.feed(0, 0, 0, 0, 0), 3);
            Check.due("count(3)", maker.count(3), 600);
        }
        Check.dueRefused("program(601)", maker, maker.program(601), 2);
        Check.dueRefused("program(620)", maker, maker.program(620), 2);
        Check.dueTaken("program(600)", maker, maker.program(600), 1);
        Check.dueTaken("feed, THE TAPE is empty", maker, maker.feed(0, 0, 0, 0, 0), 20);
    }

    private static void programBytes() {
        Check.sentence("The first n bytes of THE TAPE (it is empty then) are the PROGRAM");
        LessonMaker maker = new LessonMaker();
        String text = "def aa(){a=1}def bb(){a=1}";
        Check.feed(maker, text);
        Check.dueTaken("program(13)", maker, maker.program(13), 1);
        Check.due("count(0)", maker.count(0), 1);
        Check.due("count(3)", maker.count(3), 0);
        Check.dueRefused("program(26): THE TAPE is empty", maker, maker.program(26), 2);
        Check.feed(maker, text);
        Check.dueTaken("program(26)", maker, maker.program(26), 2);
        Check.due("count(3)", maker.count(3), 0);
        // none of THE TAPE: a text without a PROGRAM
        Check.dueRefused("program(0)", maker, maker.program(0), 4);
        Check.due("fault()", maker.fault(), 1);
        Check.due("where()", maker.where(), 0);
        Check.feed(maker, text);
        Check.dueRefused("program(0) with a TAPE", maker, maker.program(0), 4);
        Check.due("count(3)", maker.count(3), 0);
        Check.due("count(0)", maker.count(0), 2);
        Check.feed(maker, "   \n" + text);
        Check.dueRefused("program(0) with a TAPE of blanks first", maker, maker.program(0), 4);
        Check.due("where(): the end of none", maker.where(), 0);
        Check.feed(maker, "   \n" + text);
        Check.dueRefused("program(3) of blanks", maker, maker.program(3), 4);
        Check.due("where(): their end", maker.where(), 3);
    }

    private static void programBytesOften() {
        Check.sentence("The first n bytes of THE TAPE (it is empty then) are the PROGRAM");
        LessonMaker maker = new LessonMaker();
        for (int turn = 0; turn < 16; turn++) {
            String head = "def f" + (char) ('a' + turn) + "(){return " + (turn + 10);
            String text = head + Check.times("+1", (599 - head.length()) / 2) + "}";
            Check.due("program() " + turn + " of " + text.length(), Check.program(maker, text), 1);
        }
        Check.due("run() of the last one", maker.run(0, 0, 0, 0, 1), 0);
        Check.due("ran(0)", maker.ran(0), 25 + 290);
        Check.due("name(0, 1)", maker.name(0, 1), 'p');
    }

    private static void programCounts() {
        Check.sentence("RUNS told and the latest run() are gone: how many FUNCTIONS.");
        LessonMaker maker = new LessonMaker();
        for (int n = 1; n <= 10; n++) {
            Check.dueTaken("program() of " + n, maker, Check.program(maker, functions(n)), n);
            Check.due("count(0)", maker.count(0), n);
            Check.due("count(1)", maker.count(1), n);
        }
        for (int n = 9; n > 0; n--) {
            Check.dueTaken("program() of " + n, maker, Check.program(maker, functions(n)), n);
            Check.due("count(0)", maker.count(0), n);
            Check.due("count(1)", maker.count(1), n);
        }
    }

    private static void programForgets() {
        Check.sentence("RUNS told and the latest run() are gone");
        LessonMaker maker = Check.withProgram("def aa(){say 1;return 2}");
        maker.run(0, 0, 0, 0, 9);
        maker.tell(0, 0, 0, 0);
        maker.fewest();
        Check.due("picked(0)", maker.picked(0), 0);
        Check.due("program()", Check.program(maker, "def aa(){say 1;return 2}"), 1);
        Check.due("count(2)", maker.count(2), 0);
        Check.due("shown()", maker.shown(), 0);
        Check.due("picked(0)", maker.picked(0), -1);
        Check.due("covered(0)", maker.covered(0), -1);
        Check.dueRefused("ran(0)", maker, maker.ran(0), 5);
        Check.dueRefused("place(0)", maker, maker.place(0), 5);
        Check.dueNoSuch("said(0)", () -> maker.said(0));
        Check.dueNoSuch("trace(0, 0)", () -> maker.trace(0, 0));
        Check.due("fewest()", maker.fewest(), 0);
        Check.dueTaken("tell() is the first one", maker, maker.tell(0, 0, 0, 0), 0);
    }

    private static void programRefused() {
        Check.sentence("NONE: 2 (THE TAPE stays)");
        LessonMaker maker = Check.withProgram("def bb(){say 1;return 2}");
        maker.run(0, 0, 0, 0, 9);
        maker.tell(0, 0, 0, 0);
        Check.feed(maker, "def aa(){a=1}");
        int[] bad = {21, 22, 40, 600, -20};
        for (int n : bad) {
            Check.dueRefused("program(" + n + ")", maker, maker.program(n), 2);
        }
        for (int n : Check.FAR) {
            Check.dueRefused("program(" + n + ")", maker, maker.program(n), 2);
        }
        Check.due("count(3)", maker.count(3), 20);
        Check.due("count(2)", maker.count(2), 1);
        Check.due("ran(0)", maker.ran(0), 2);
        Check.due("name(0, 0)", maker.name(0, 0), 'b');
        Check.dueTaken("program(20)", maker, maker.program(20), 1);
        Check.due("name(0, 0)", maker.name(0, 0), 'a');
        Check.due("gone()", maker.gone(), 1);
    }

    private static void programFaulty() {
        Check.sentence("4 (all but THE TAPE stays)");
        String[] faulty = {"def xx(", "def xx(a,a){a=1}", "def xx(a,b,c,d){a=1}", "def xx(){a=yy()}", "",
            "def xx(){say 1;say 2;say 3;say 4;say 5;say xx(1)}"};
        for (String text : faulty) {
            LessonMaker maker = Check.withProgram("def aa(){say 1}");
            Check.program(maker, "def aa(){say 1}def bb(a){say a;return aa()+7}");
            maker.run(1, 5, 0, 0, 9);
            maker.tell(1, 5, 0, 0);
            maker.fewest();
            Check.dueRefused("program() of " + text, maker, Check.program(maker, text), 4);
            Check.due("count(0)", maker.count(0), 2);
            Check.due("count(1)", maker.count(1), 3);
            Check.due("count(2)", maker.count(2), 1);
            Check.due("count(3)", maker.count(3), 0);
            Check.due("name(1, 0)", maker.name(1, 0), 'b');
            Check.due("function(1, 3)", maker.function(1, 3), 1);
            Check.due("line(2, 2)", maker.line(2, 2), 31);
            Check.due("said(0)", maker.said(0), 5);
            Check.due("trace(0, 3)", maker.trace(0, 3), 5);
            Check.due("covered(0)", maker.covered(0), 1);
            Check.due("picked(0)", maker.picked(0), 0);
            Check.due("shown()", maker.shown(), 3);
            Check.due("anew(0)", maker.anew(0), 0);
            Check.due("anew(1)", maker.anew(1), 2);
            Check.due("chapter(1)", maker.chapter(1), 1);
            Check.due("ran(0)", maker.ran(0), 7);
            Check.due("place(0)", maker.place(0), 5);
            Check.due("run()", maker.run(1, 6, 0, 0, 9), 0);
            Check.due("said(0) of it", maker.said(0), 6);
            // the PROGRAM ahead is still the one that stood ahead of the FAULT
            Check.due("program()", Check.program(maker, "def bb(a){say a;return 7}def aa(){say 1}"), 2);
            Check.due("anew(0)", maker.anew(0), 2);
            Check.due("anew(1)", maker.anew(1), 0);
            Check.due("gone()", maker.gone(), 0);
        }
    }

    private static void faults() {
        Check.sentence("The FAULT of the latest program() not refused by 2; 0 without one.");
        LessonMaker maker = new LessonMaker();
        Check.due("fault(), no program() yet", maker.fault(), 0);
        maker.program(1);
        Check.due("fault() behind one refused by 2", maker.fault(), 0);
        String[] texts = {"def", "def aa(a,a){a=1}", "def aa(a,b,c,d){a=1}", "def aa(){a=bb()}", "def aa(){a=1}"};
        int[] want = {1, 2, 3, 4, 0};
        for (int i = 0; i < texts.length; i++) {
            Check.program(maker, texts[i]);
            Check.due("fault() of " + texts[i], maker.fault(), want[i]);
            maker.program(1);
            maker.program(-1);
            maker.run(9, 0, 0, 0, 1);
            Check.due("fault() of " + texts[i] + " still", maker.fault(), want[i]);
        }
    }

    private static void wheres() {
        Check.sentence("Its place, if the latest call that may be refused was by 4; NONE else.");
        LessonMaker maker = new LessonMaker();
        Check.due("where() of a new object", maker.where(), -1);
        Check.program(maker, "def aa(a,a){a=1}");
        Check.due("where()", maker.where(), 9);
        Check.due("where() again", maker.where(), 9);
        maker.feed(0, 0, 0, 0, 0);
        Check.due("where() behind feed", maker.where(), -1);
        maker.program(0);
        Check.due("where() behind program(0)", maker.where(), 0);
        maker.program(1);
        Check.due("where() behind one refused by 2", maker.where(), -1);
        Check.due("fault() is still 1", maker.fault(), 1);
        maker.program(0);
        maker.run(0, 0, 0, 0, 1);
        Check.due("where() behind one refused by 1", maker.where(), -1);
        maker.program(0);
        maker.ran(0);
        Check.due("where() behind one refused by 5", maker.where(), -1);
        Check.feed(maker, Check.times(" ", 600));
        Check.due("program()", maker.program(600), -1);
        Check.due("where() is the farthest", maker.where(), 600);
        Check.feed(maker, Check.times(" ", 600));
        maker.feed(0, 0, 0, 0, 0);
        Check.due("where() behind one refused by 3", maker.where(), -1);
        maker.program(0);
        Check.due("program()", Check.program(maker, "def aa(){a=1}"), 1);
        Check.due("where() behind a PROGRAM", maker.where(), -1);
    }

    private static void functionNumbers() {
        Check.sentence("Of a FUNCTION what 0 PLACES, 1 its first LINE, 2 how many LINES, "
                + "3 the FUNCTIONS that it calls, as bits. NONE.");
        StringBuilder text = new StringBuilder("def fa(){a=fa()");
        for (char c = 'b'; c <= 'j'; c++) {
            text.append("+f").append(c).append("()");
        }
        text.append("}").append(functions(10).substring(13));
        LessonMaker maker = Check.withProgram(text.toString());
        Check.due("function(0, 3)", maker.function(0, 3), 1023);
        Check.due("function(9, 3)", maker.function(9, 3), 0);
        Check.due("function(9, 2)", maker.function(9, 2), 1);
        Check.due("function(9, 1)", maker.function(9, 1), 9);
        Check.due("function(9, 0)", maker.function(9, 0), 0);
        for (int what = 0; what < 4; what++) {
            Check.due("function(10, " + what + ")", maker.function(10, what), -1);
            Check.due("function(-1, " + what + ")", maker.function(-1, what), -1);
        }
        Check.due("function(9, 4)", maker.function(9, 4), -1);
        for (int far : Check.FAR) {
            Check.due("function(" + far + ", 0)", maker.function(far, 0), -1);
            Check.due("function(0, " + far + ")", maker.function(0, far), -1);
        }
        for (int turn = 0; turn < 6; turn++) {
            Check.program(maker, "def aa(a){a=1}");
            Check.due("function(1, 0) of fewer FUNCTIONS", maker.function(1, 0), -1);
            int[] want = {1, 0, 1, 0};
            for (int what = 0; what < 4; what++) {
                Check.due("function(0, " + what + ") of another PROGRAM", maker.function(0, what), want[what]);
            }
        }
    }

    private static void nameBytes() {
        Check.sentence("Byte i of a FUNCTION's NAME. NoSuchElementException if there is none such.");
        LessonMaker maker = Check.withProgram("def az(){a=1}def abcdefgh(){a=1}");
        Check.due("name(0, 0)", maker.name(0, 0), 'a');
        Check.due("name(0, 1)", maker.name(0, 1), 'z');
        Check.dueNoSuch("name(0, 2)", () -> maker.name(0, 2));
        Check.due("name(1, 7)", maker.name(1, 7), 'h');
        Check.dueNoSuch("name(1, 8)", () -> maker.name(1, 8));
        Check.dueNoSuch("name(1, -1)", () -> maker.name(1, -1));
        Check.dueNoSuch("name(2, 0)", () -> maker.name(2, 0));
        Check.dueNoSuch("name(-1, 0)", () -> maker.name(-1, 0));
        for (int far : Check.FAR) {
            Check.dueNoSuch("name(" + far + ", 0)", () -> maker.name(far, 0));
            Check.dueNoSuch("name(0, " + far + ")", () -> maker.name(0, far));
        }
    }

    private static void lineNumbers() {
        Check.sentence("Of a LINE what 0 its kind (0 PLACE =, 1 say, 2 return, 3 if, 4 while), 1 its FUNCTION, "
                + "2 the place of its first TOKEN in the text, 3 in how many BLOCKS it stands. NONE.");
        String five = Check.times("if 1=1{", 5);
        LessonMaker maker = Check.withProgram(" \n" + body(five + "say 1" + Check.times("}", 5)));
        Check.due("line(0, 2)", maker.line(0, 2), 11);
        Check.due("line(0, 3)", maker.line(0, 3), 1);
        Check.due("line(5, 3)", maker.line(5, 3), 6);
        Check.due("line(6, 3)", maker.line(6, 3), -1);
        Check.due("line(-1, 0)", maker.line(-1, 0), -1);
        Check.due("line(0, 4)", maker.line(0, 4), -1);
        Check.due("line(0, -1)", maker.line(0, -1), -1);
        for (int far : Check.FAR) {
            Check.due("line(" + far + ", 0)", maker.line(far, 0), -1);
            Check.due("line(0, " + far + ")", maker.line(0, far), -1);
        }
        Check.program(maker, body("a=1;say 1;return 1;if 1=1{a=1};while 1=1{a=1}"));
        int[] kinds = {0, 1, 2, 3, 0, 4, 0};
        for (int l = 0; l < kinds.length; l++) {
            Check.due("line(" + l + ", 0)", maker.line(l, 0), kinds[l]);
        }
        Check.due("line(7, 0)", maker.line(7, 0), -1);
        Check.program(maker, Check.times(" ", 587) + body("a=1"));
        Check.due("line(0, 2) as far as can be", maker.line(0, 2), 596);
        Check.due("line(1, 2) of fewer LINES", maker.line(1, 2), -1);
    }
}
