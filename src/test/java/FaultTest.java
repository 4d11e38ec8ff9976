/** Promises 3 to 5: what is a PROGRAM, and the FAULTS of what is none, with their places. */
final class FaultTest {
    public static void main(String[] args) {
        fineTexts();
        formOfTokens();
        formOfFunctions();
        formOfLines();
        formOfSums();
        twice();
        manyFunctions();
        manyLines();
        manyPlacesAndSums();
        manyBraces();
        manyBrackets();
        calls();
        firstFromTheLeft();
        Check.end();
    }

    private static String body(String lines) {
        return "def aa(){" + lines + "}";
    }

    private static void fineTexts() {
        Check.dueFine("def aa(){a=1}", 1);
        Check.dueFine("  \n def\naa\n( a , b,c ) { say1 ; say 2 } \n ", 1);
        Check.dueFine("def aa(){say 99999}", 1);
        Check.dueFine("def abcdefgh(h){return h*h-h+h}", 1);
        Check.dueFine("def aa(){if 1<2{a=1}else{a=2};while a>3{a=a-1};say a}", 1);
        Check.dueFine("def aa(){if 1=2{if 2=3{a=1}else{a=2}}else{if 3=4{say 1}}}", 1);
        Check.dueFine("def aa(){say bb()}def bb(){say aa()}", 2);
        Check.dueFine("def defs(){say saying()}def saying(){say 1}def iff(){say 1}", 3);
        Check.dueFine("def aa(){say aa()*(aa()+1)-(((2)))}", 1);
    }

    private static void formOfTokens() {
        Check.dueFault("", 1, 0);
        Check.dueFault("   ", 1, 3);
        Check.dueFault("\t", 1, 0);
        Check.dueFault("Def aa(){a=1}", 1, 0);
        Check.dueFault("def aA(){a=1}", 1, 4);
        Check.dueFault("def aa(){a=1}\r", 1, 13);
        Check.dueFault("def aa(){a=1/2}", 1, 12);
        Check.dueFault("def aa(){a=1}\u0000", 1, 13);
        Check.dueFault("def abcdefghi(){a=1}", 1, 4);
        Check.dueFault("def aa(){a=123456}", 1, 11);
        Check.dueFault("def aa(){a=b1}", 1, 12);
        Check.dueFault("def aa(){a=1b}", 1, 12);
        Check.dueFault("de f aa(){a=1}", 1, 0);
        Check.dueFault("defaa(){a=1}", 1, 0);
        Check.dueFault("def aa(){a=1 2}", 1, 13);
    }

    private static void formOfFunctions() {
        Check.dueFault("def", 1, 3);
        Check.dueFault("def   ", 1, 6);
        Check.dueFault("def a(){a=1}", 1, 4);
        Check.dueFault("def x(){a=1}", 1, 4);
        Check.dueFault("def 12(){a=1}", 1, 4);
        String[] own = {"def", "say", "return", "if", "else", "while"};
        for (String word : own) {
            Check.dueFault("def " + word + "(){a=1}", 1, 4);
        }
        Check.dueFault("def aa{a=1}", 1, 6);
        Check.dueFault("def aa(,){a=1}", 1, 7);
        Check.dueFault("def aa(a,){a=1}", 1, 9);
        Check.dueFault("def aa(a b){a=1}", 1, 9);
        Check.dueFault("def aa(i){a=1}", 1, 7);
        Check.dueFault("def aa(bb){a=1}", 1, 7);
        Check.dueFault("def aa(1){a=1}", 1, 7);
        Check.dueFault("def aa()a=1", 1, 8);
        Check.dueFault("def aa(){a=1};", 1, 13);
        Check.dueFault("def aa(){a=1}}", 1, 13);
        Check.dueFault("def aa(){a=1} say 2", 1, 14);
        Check.dueFault("def aa(){a=1} def", 1, 17);
    }

    private static void formOfLines() {
        Check.dueFault("def aa(){}", 1, 9);
        Check.dueFault("def aa(){;}", 1, 9);
        Check.dueFault("def aa(){a=1;}", 1, 13);
        Check.dueFault("def aa(){a=1 b=2}", 1, 13);
        Check.dueFault("def aa(){i=1}", 1, 9);
        Check.dueFault("def aa(){aa()}", 1, 9);
        Check.dueFault("def aa(){a}", 1, 10);
        Check.dueFault("def aa(){a<1}", 1, 10);
        Check.dueFault("def aa(){a=}", 1, 11);
        Check.dueFault("def aa(){a=1=2}", 1, 12);
        Check.dueFault("def aa(){say}", 1, 12);
        Check.dueFault("def aa(){return;a=1}", 1, 15);
        Check.dueFault("def aa(){else{a=1}}", 1, 9);
        Check.dueFault("def aa(){def bb(){a=1}}", 1, 9);
        Check.dueFault("def aa(){if 1{a=1}}", 1, 13);
        Check.dueFault("def aa(){if 1<2 a=1}", 1, 16);
        Check.dueFault("def aa(){if 1<2<3{a=1}}", 1, 15);
        Check.dueFault("def aa(){if 1<2{}}", 1, 16);
        Check.dueFault("def aa(){if 1<2{a=1}else a=1}", 1, 25);
        Check.dueFault("def aa(){if 1<2{a=1};else{a=1}}", 1, 21);
        Check.dueFault("def aa(){if 1<2{a=1}else{a=1}else{a=1}}", 1, 29);
        Check.dueFault("def aa(){while 1<2{a=1}else{a=1}}", 1, 23);
        Check.dueFault("def aa(){while{a=1}}", 1, 14);
        Check.dueFault("def aa(){while(1<2){a=1}}", 1, 16);
        Check.dueFault("def aa(){a=1", 1, 12);
        Check.dueFault("def aa(){a=1   ", 1, 15);
    }

    private static void formOfSums() {
        Check.dueFault(body("a=-1"), 1, 11);
        Check.dueFault(body("a=1+"), 1, 13);
        Check.dueFault(body("a=1++1"), 1, 13);
        Check.dueFault(body("a=1*+1"), 1, 13);
        Check.dueFault(body("a=()"), 1, 12);
        Check.dueFault(body("a=(1"), 1, 13);
        Check.dueFault(body("a=(1,2)"), 1, 13);
        Check.dueFault(body("a=(1<2)"), 1, 13);
        Check.dueFault(body("a=1)"), 1, 12);
        Check.dueFault(body("a=aa"), 1, 13);
        Check.dueFault(body("a=aa+1"), 1, 13);
        Check.dueFault(body("a=aa(,)"), 1, 14);
        Check.dueFault(body("a=aa(1,)"), 1, 16);
        Check.dueFault(body("a=aa(1 2)"), 1, 16);
        Check.dueFault(body("a=b(1)"), 1, 12);
        Check.dueFault(body("a=say"), 1, 11);
        Check.dueFault(body("a=x"), 1, 11);
    }

    private static void twice() {
        Check.dueFault("def aa(){a=1}def aa(){a=1}", 2, 17);
        Check.dueFault("def aa(){a=1}def bb(){a=1}def aa", 2, 30);
        Check.dueFault("def aa(b,a,b){a=1}", 2, 11);
        Check.dueFault("def aa(a,a", 2, 9);
        Check.dueFine("def aa(a){a=1}def ab(a){a=1}def aab(a){a=1}", 3);
    }

    private static void manyFunctions() {
        StringBuilder ten = new StringBuilder();
        for (int f = 0; f < 10; f++) {
            ten.append("def f").append((char) ('a' + f)).append("(){a=1} ");
        }
        Check.dueFine(ten.toString(), 10);
        int end = ten.length();
        Check.dueFault(ten + "def zz(){a=1}", 3, end);
        Check.dueFault(ten + "def fa", 3, end);
        Check.dueFault(ten + "def", 3, end);
        Check.dueFault(ten + "de", 1, end);
    }

    private static void manyLines() {
        String sixty = Check.times("a=1;", 59) + "a=1";
        Check.dueFine(body(sixty), 1);
        int next = 9 + 240;
        Check.dueFault(body(sixty + ";say 1"), 3, next);
        Check.dueFault(body(sixty + ";if"), 3, next);
        Check.dueFault(body(sixty + ";a"), 3, next);
        Check.dueFault(body(sixty + ";else"), 1, next);
        Check.dueFault(body(sixty + ";"), 1, next);
        Check.dueFault(body(sixty + ";x=1"), 1, next);
        Check.dueFault(body(sixty) + "def bb(){a=1}", 3, next + 9);
        Check.dueFault(body(sixty) + "def bb(){", 1, next + 9);
        String within = "if 1=1{" + Check.times("a=1;", 58) + "a=1}";
        Check.dueFine(body(within), 1);
        Check.dueFault(body(within + ";a=1"), 3, 9 + within.length() + 1);
        Check.dueFault(body(within + "else{a=1"), 3, 9 + within.length() + 5);
    }

    private static void manyPlacesAndSums() {
        Check.dueFault("def aa(a,b,c,d){a=1}", 3, 13);
        Check.dueFault("def aa(a,b,c,a){a=1}", 2, 13);
        Check.dueFault("def aa(a,b,c,i){a=1}", 1, 13);
        Check.dueFault("def aa(a,b,c,){a=1}", 1, 13);
        Check.dueFault(body("a=aa(1,2,3,4)"), 3, 20);
        Check.dueFault(body("a=aa(1,2,3,(4))"), 3, 20);
        Check.dueFault(body("a=aa(1,2,3,a"), 3, 20);
        Check.dueFault(body("a=aa(1,2,3,aa"), 3, 20);
        Check.dueFault(body("a=aa(1,2,3,)"), 1, 20);
        Check.dueFault(body("a=aa(1,2,3,x)"), 1, 20);
        Check.dueFault(body("a=aa(1,2,3,say)"), 1, 20);
        Check.dueFault(body("a=aa(1,2,aa(1,2,3,4))"), 3, 27);
        Check.dueFine("def aa(a,b,c){a=aa(1,2,aa(1,aa(1,2,3),3))}", 1);
    }

    private static void manyBraces() {
        String five = Check.times("if 1=1{", 5);
        Check.dueFine(body(five + "a=1" + Check.times("}", 5)), 1);
        Check.dueFault(body(five + "if 1=1{a=1"), 3, 9 + 35 + 6);
        Check.dueFault(body(five + "if 1=1 a=1"), 1, 9 + 35 + 7);
        Check.dueFault(body(five + "while 1=1{a=1"), 3, 9 + 35 + 9);
        Check.dueFine(body(five + "a=1}else{a=1" + Check.times("}", 5)), 1);
        Check.dueFault(body(five + "a=1}else{if 1=1{"), 3, 9 + 35 + 3 + 1 + 5 + 6);
    }

    private static void manyBrackets() {
        Check.dueFine(body("a=((((((1))))))"), 1);
        Check.dueFault(body("a=(((((((1)))))))"), 3, 17);
        Check.dueFine(body("a=(((((aa())))))"), 1);
        Check.dueFault(body("a=((((((aa()))))))"), 3, 19);
        Check.dueFault(body("a=((((((aa))))))"), 1, 19);
        Check.dueFault("def aa(a){a=aa(aa(aa(aa(aa(aa(aa(1", 3, 32);
        Check.dueFine("def aa(a){a=aa(aa(aa(aa(aa(aa(1))))))}", 1);
        Check.dueFine(body("a=((((((1))))))+((((((1))))))*((((((1))))))"), 1);
        Check.dueFine(body("if((((((1))))))=((((((1)))))){a=1}"), 1);
    }

    private static void calls() {
        Check.dueFault(body("a=bb()"), 4, 11);
        Check.dueFault(body("a=aa(1)"), 4, 11);
        Check.dueFault("def aa(a){a=1+aa()}", 4, 14);
        Check.dueFault("def aa(a){a=aa(1,2)}", 4, 12);
        Check.dueFault("def aa(a){a=aa(bb())}", 4, 15);
        Check.dueFault("def aa(a){a=bb(aa())}", 4, 12);
        Check.dueFault("def aa(a){a=aa(1);say ab(1)}def bb(){say cc()}", 4, 22);
        Check.dueFine("def aa(a,b){a=bb(1)}def bb(c){say aa(1,2)}", 2);
    }

    private static void firstFromTheLeft() {
        Check.dueFault("def aa(){a=bb();say}", 1, 19);
        Check.dueFault("def aa(){a=bb()}def aa(){a=1}", 2, 20);
        Check.dueFault("def aa(a,a){a=1}$", 2, 9);
        Check.dueFault("def aa(a,b){a=+}$", 1, 14);
        Check.dueFault("def aa(a,b,c,d,d){a=1}", 3, 13);
        Check.dueFault("def aa(a,a,c,d){a=1}", 2, 9);
        Check.dueFault("def aa(){a=bb(1,2,3,4)}", 3, 20);
        Check.dueFault("def aa(){a=bb(1,2,3)", 1, 20);
    }
}
