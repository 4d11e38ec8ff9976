import java.util.NoSuchElementException;

/**
 * A maker of lessons out of programs: a small language of functions read from a text, run with
 * every line's state ahead and behind, what it says, the questions whose answers runs give beside
 * what wrong rules would tell, the fewest of told runs that show all lines, the order of chapters
 * with the fewest names used ahead of their telling, and, as the program grows, which chapters must
 * be made anew.
 */
public final class LessonMaker {
    public static final int NONE = -1;

    private static final int NO_PROGRAM = -2;
    private static final int TAPE_BYTES = 600;
    private static final int FEED_BYTES = 20;
    private static final int MOST_FUEL = 2000;

    private static final int FINE = 0;
    private static final int NONE_SUCH = 1;
    private static final int BAD_NUMBER = 2;
    private static final int NO_ROOM = 3;
    private static final int FAULTY = 4;
    private static final int NOT_RUN = 5;

    private final byte[] tape;
    private int fed;

    // Two programs take turns, so that a text with a FAULT is read beside what stays.
    private Program now;
    private Program spare;
    private final Reader reader;

    private final Machine latest;
    private final Machine truth;
    private final Machine trial;
    private boolean hasRun;

    private final Chapters chapters;
    private final Told told;
    private final Growth growth;

    private int latestFault;
    private int latestTrouble;

    public LessonMaker() {
        tape = new byte[TAPE_BYTES];
        now = new Program();
        spare = new Program();
        reader = new Reader();
        latest = new Machine();
        truth = new Machine();
        trial = new Machine();
        chapters = new Chapters();
        told = new Told();
        growth = new Growth();
    }

    public int feed(int a, int b, int c, int d, int e) {
        if (fed + FEED_BYTES > TAPE_BYTES) {
            return refuse(NO_ROOM);
        }
        feedNumber(a);
        feedNumber(b);
        feedNumber(c);
        feedNumber(d);
        feedNumber(e);
        return accept(fed);
    }

    public int program(int n) {
        if (n < 0 || n > fed) {
            return refuse(BAD_NUMBER);
        }
        fed = 0;
        latestFault = reader.read(tape, n, spare);
        if (latestFault != Reader.NO_FAULT) {
            return refuse(FAULTY);
        }
        turnToSpare();
        return accept(now.functionCount);
    }

    public int fault() {
        return latestFault;
    }

    public int where() {
        return latestTrouble == FAULTY ? reader.faultPlace : NONE;
    }

    public int function(int f, int what) {
        if (!now.hasFunction(f)) {
            return NONE;
        }
        switch (what) {
            case 0:
                return now.functions[f].placeCount;
            case 1:
                return now.functions[f].firstLine;
            case 2:
                return now.functions[f].lineCount;
            case 3:
                return now.functions[f].calls;
            default:
                return NONE;
        }
    }

    public int name(int f, int i) throws NoSuchElementException {
        if (!now.hasFunction(f)) {
            throw new NoSuchElementException("no such function");
        }
        int letter = now.tokens.byteOf(now.functions[f].name, i);
        if (letter == NONE) {
            throw new NoSuchElementException("no such byte of the name");
        }
        return letter;
    }

    public int line(int l, int what) {
        if (!now.hasLine(l)) {
            return NONE;
        }
        switch (what) {
            case 0:
                return now.lines[l].kind;
            case 1:
                return now.lines[l].function;
            case 2:
                return now.lines[l].at;
            case 3:
                return now.lines[l].blocks;
            default:
                return NONE;
        }
    }

    public int run(int f, int x, int y, int z, int fuel) {
        if (!now.hasFunction(f)) {
            return refuse(NONE_SUCH);
        }
        if (fuel < 1 || fuel > MOST_FUEL) {
            return refuse(BAD_NUMBER);
        }
        latest.start(now, fuel, Machine.TRUE_RULES);
        latest.finish(f, x, y, z);
        hasRun = true;
        return accept(latest.end);
    }

    public int ran(int what) {
        if (!hasRun) {
            return refuse(NOT_RUN);
        }
        switch (what) {
            case 0:
                return accept(latest.value);
            case 1:
                return accept(latest.steps);
            case 2:
                return accept(latest.saidCount);
            case 3:
                return accept(latest.traceCount);
            case 4:
                return accept(Long.bitCount(latest.covers));
            case 5:
                return accept(latest.deepest);
            default:
                return refuse(BAD_NUMBER);
        }
    }

    public int said(int i) throws NoSuchElementException {
        if (!hasRun || !latest.keepsSaid(i)) {
            throw new NoSuchElementException("nothing such was said");
        }
        return latest.saidAt(i);
    }

    public int trace(int i, int what) throws NoSuchElementException {
        if (!hasRun || !latest.keepsTrace(i, what)) {
            throw new NoSuchElementException("nothing such was traced");
        }
        return latest.traceAt(i, what);
    }

    public int covered(int l) {
        if (!hasRun || !now.hasLine(l)) {
            return NONE;
        }
        return (latest.covers >> l & 1L) != 0 ? 1 : 0;
    }

    public int place(int k) {
        if (!hasRun) {
            return refuse(NOT_RUN);
        }
        if (k < 0 || k >= Machine.PLACES) {
            return refuse(BAD_NUMBER);
        }
        return accept(latest.firstCallsPlace(k));
    }

    public int wrong(int rule, int f, int x, int y, int z) {
        if (!now.hasFunction(f)) {
            return refuse(NONE_SUCH);
        }
        if (rule < 0 || rule >= Machine.WRONG_RULES) {
            return refuse(BAD_NUMBER);
        }
        trial.start(now, MOST_FUEL, rule);
        trial.finish(f, x, y, z);
        return accept(trial.value);
    }

    public int unlike(int f, int x, int y, int z) {
        if (!now.hasFunction(f)) {
            return refuse(NONE_SUCH);
        }
        truth.start(now, MOST_FUEL, Machine.TRUE_RULES);
        truth.finish(f, x, y, z);
        int others = 0;
        for (int rule = 0; rule < Machine.WRONG_RULES; rule++) {
            trial.start(now, MOST_FUEL, rule);
            trial.finish(f, x, y, z);
            if (!trial.tellsLike(truth)) {
                others++;
            }
        }
        return accept(others);
    }

    public int order() {
        if (now.functionCount == 0) {
            return NO_PROGRAM;
        }
        return chapters.callsAhead(now);
    }

    public int chapter(int i) {
        if (!now.hasFunction(i)) {
            return NONE;
        }
        return chapters.functionAt(now, i);
    }

    public int tell(int f, int x, int y, int z) {
        if (!now.hasFunction(f)) {
            return refuse(NONE_SUCH);
        }
        if (told.isFull()) {
            return refuse(NO_ROOM);
        }
        trial.start(now, MOST_FUEL, Machine.TRUE_RULES);
        trial.finish(f, x, y, z);
        return accept(told.add(trial.covers));
    }

    public int shown() {
        return Long.bitCount(told.shownLines());
    }

    public int fewest() {
        return told.chooseFewest();
    }

    public int picked(int i) {
        return told.chosenAt(i);
    }

    public int anew(int f) {
        if (!now.hasFunction(f)) {
            return NONE;
        }
        return growth.stateOf(f);
    }

    public int gone() {
        return growth.goneCount;
    }

    public int count(int what) {
        switch (what) {
            case 0:
                return now.functionCount;
            case 1:
                return now.lineCount;
            case 2:
                return told.size;
            case 3:
                return fed;
            default:
                return NONE;
        }
    }

    public int trouble() {
        return latestTrouble;
    }

    private int refuse(int why) {
        latestTrouble = why;
        return NONE;
    }

    private int accept(int answer) {
        latestTrouble = FINE;
        return answer;
    }

    private void feedNumber(int number) {
        for (int shift = 24; shift >= 0; shift -= 8) {
            if (fed >= 0 && fed < tape.length) {
                tape[fed] = (byte) (number >> shift);
                fed++;
            }
        }
    }

    private void turnToSpare() {
        Program before = now;
        now = spare;
        spare = before;
        hasRun = false;
        told.forget();
        chapters.forget();
        growth.compare(before, now);
    }

    /** A text cut into TOKENS; the last of them is its END, or the byte that begins none. */
    private static final class Tokens {
        static final int END = 0;
        static final int ODD = 1;
        static final int WHOLE = 2;
        static final int PLACE = 3;
        static final int NAME = 4;
        static final int DEF = 5;
        static final int SAY = 6;
        static final int RETURN = 7;
        static final int IF = 8;
        static final int ELSE = 9;
        static final int WHILE = 10;
        // Kinds above these are the single signs, each by its own byte.

        private static final int MOST_LETTERS = 8;
        private static final int MOST_DIGITS = 5;

        private final byte[] text;
        private int length;
        final int[] kinds;
        private final int[] places;
        private final int[] widths;
        int size;

        Tokens() {
            text = new byte[TAPE_BYTES];
            kinds = new int[TAPE_BYTES + 1];
            places = new int[TAPE_BYTES + 1];
            widths = new int[TAPE_BYTES + 1];
        }

        void cut(byte[] from, int n) {
            length = Math.max(0, Math.min(n, Math.min(from.length, text.length)));
            System.arraycopy(from, 0, text, 0, length);
            size = 0;
            for (int i = 0; i < length; i++) {
                if (text[i] == ' ' || text[i] == '\n') {
                    continue;
                }
                int width = widthAt(i);
                if (width == 0) {
                    add(ODD, i, 0);
                    return;
                }
                add(kindOf(i, width), i, width);
                i += width - 1;
            }
            add(END, length, 0);
        }

        int placeOf(int t) {
            return has(t) ? places[t] : length;
        }

        int byteOf(int t, int i) {
            return has(t) && i >= 0 && i < widths[t] ? textAt(places[t] + i) : NONE;
        }

        /** Which PLACE a TOKEN is, from 0 for a. */
        int letterOf(int t) {
            return has(t) ? Math.max(0, textAt(places[t]) - 'a') : 0;
        }

        int valueOf(int t) {
            int value = 0;
            for (int i = 0; has(t) && i < widths[t]; i++) {
                value = value * 10 + textAt(places[t] + i) - '0';
            }
            return value;
        }

        boolean isLike(int t, Tokens other, int u) {
            if (!has(t) || !other.has(u) || widths[t] != other.widths[u]) {
                return false;
            }
            for (int i = 0; i < widths[t]; i++) {
                if (byteOf(t, i) != other.byteOf(u, i)) {
                    return false;
                }
            }
            return true;
        }

        private boolean has(int t) {
            return t >= 0 && t < size && t < kinds.length;
        }

        private int textAt(int i) {
            return i >= 0 && i < length && i < text.length ? text[i] : NONE;
        }

        private void add(int kind, int place, int width) {
            if (size < kinds.length) {
                kinds[size] = kind;
                places[size] = place;
                widths[size] = width;
                size++;
            }
        }

        /** How many bytes the TOKEN at i has; 0 if the byte there begins none. */
        private int widthAt(int i) {
            if (isLetter(i)) {
                int end = i + 1;
                while (end < length && isLetter(end)) {
                    end++;
                }
                return end - i <= MOST_LETTERS ? end - i : 0;
            }
            if (isDigit(i)) {
                int end = i + 1;
                while (end < length && isDigit(end)) {
                    end++;
                }
                return end - i <= MOST_DIGITS ? end - i : 0;
            }
            return isSign(textAt(i)) ? 1 : 0;
        }

        private boolean isLetter(int i) {
            return textAt(i) >= 'a' && textAt(i) <= 'z';
        }

        private boolean isDigit(int i) {
            return textAt(i) >= '0' && textAt(i) <= '9';
        }

        private static boolean isSign(int b) {
            switch (b) {
                case '(':
                case ')':
                case '{':
                case '}':
                case ',':
                case ';':
                case '=':
                case '<':
                case '>':
                case '+':
                case '-':
                case '*':
                    return true;
                default:
                    return false;
            }
        }

        private int kindOf(int i, int width) {
            if (isDigit(i)) {
                return WHOLE;
            }
            if (!isLetter(i)) {
                return textAt(i);
            }
            if (width == 1) {
                return textAt(i) <= 'h' ? PLACE : ODD;
            }
            return wordKind(i, width);
        }

        private int wordKind(int i, int width) {
            if (spells(i, width, "def")) {
                return DEF;
            }
            if (spells(i, width, "say")) {
                return SAY;
            }
            if (spells(i, width, "return")) {
                return RETURN;
            }
            if (spells(i, width, "if")) {
                return IF;
            }
            if (spells(i, width, "else")) {
                return ELSE;
            }
            return spells(i, width, "while") ? WHILE : NAME;
        }

        private boolean spells(int i, int width, String word) {
            if (width != word.length()) {
                return false;
            }
            for (int j = 0; j < width; j++) {
                if (textAt(i + j) != word.charAt(j)) {
                    return false;
                }
            }
            return true;
        }
    }

    /** What a PROGRAM does, as a row of small acts over a stack, so that no RUN needs recursion. */
    private static final class Code {
        static final int STEP = 0;
        static final int WHOLE = 1;
        static final int PLACE = 2;
        static final int ADD = 3;
        static final int TAKE = 4;
        static final int TIMES = 5;
        static final int LESS = 6;
        static final int MORE = 7;
        static final int SAME = 8;
        static final int CALL = 9;
        static final int SET = 10;
        static final int SAY = 11;
        static final int RETURN = 12;
        static final int BRANCH = 13;
        static final int AGAIN = 14;
        static final int JUMP = 15;
        static final int CLOSE = 16;

        // An act comes of a TOKEN, and a LINE or FUNCTION adds fewer than it has TOKENS.
        private static final int MOST_ACTS = 2 * TAPE_BYTES;

        final int[] acts;
        final int[] numbers;
        final int[] lines;
        int size;

        Code() {
            acts = new int[MOST_ACTS];
            numbers = new int[MOST_ACTS];
            lines = new int[MOST_ACTS];
        }

        void clear() {
            size = 0;
        }

        /** Adds an act with its number, of a LINE: its place in the row. */
        int add(int act, int number, int line) {
            if (size >= acts.length) {
                return NONE;
            }
            acts[size] = act;
            numbers[size] = number;
            lines[size] = line;
            size++;
            return size - 1;
        }

        void setNumber(int i, int number) {
            if (has(i)) {
                numbers[i] = number;
            }
        }

        boolean has(int i) {
            return i >= 0 && i < size && i < acts.length;
        }
    }

    private static final class Function {
        static final int MOST_PLACES = 3;

        int name;
        int firstToken;
        int lastToken;
        int firstLine;
        int lineCount;
        int firstAct;
        int calls;
        int placeCount;
        private final int[] places;

        Function() {
            places = new int[MOST_PLACES];
        }

        void begin(int token, int line, int act) {
            firstToken = token;
            firstLine = line;
            firstAct = act;
            calls = 0;
            placeCount = 0;
        }

        boolean hasPlace(int k) {
            for (int i = 0; i < placeCount && i < places.length; i++) {
                if (places[i] == k) {
                    return true;
                }
            }
            return false;
        }

        void addPlace(int k) {
            if (placeCount < places.length) {
                places[placeCount] = k;
                placeCount++;
            }
        }

        int placeAt(int i) {
            return i >= 0 && i < placeCount && i < places.length ? places[i] : 0;
        }
    }

    private static final class Line {
        static final int SET = 0;
        static final int SAY = 1;
        static final int RETURN = 2;
        static final int IF = 3;
        static final int WHILE = 4;

        int kind;
        int function;
        int at;
        int blocks;
    }

    private static final class Program {
        static final int MOST_FUNCTIONS = 10;
        static final int MOST_LINES = 60;

        final Tokens tokens;
        final Code code;
        final Function[] functions;
        final Line[] lines;
        int functionCount;
        int lineCount;

        Program() {
            tokens = new Tokens();
            code = new Code();
            functions = new Function[MOST_FUNCTIONS];
            for (int f = 0; f < MOST_FUNCTIONS; f++) {
                functions[f] = new Function();
            }
            lines = new Line[MOST_LINES];
            for (int l = 0; l < MOST_LINES; l++) {
                lines[l] = new Line();
            }
        }

        void clear() {
            functionCount = 0;
            lineCount = 0;
            code.clear();
        }

        boolean hasFunction(int f) {
            return f >= 0 && f < functionCount && f < functions.length;
        }

        boolean hasLine(int l) {
            return l >= 0 && l < lineCount && l < lines.length;
        }

        /** Adds a LINE of the FUNCTION that is being read: its number. */
        int addLine(int kind, int at, int blocks) {
            if (lineCount >= lines.length) {
                return NONE;
            }
            Line line = lines[lineCount];
            line.kind = kind;
            line.function = functionCount;
            line.at = at;
            line.blocks = blocks;
            lineCount++;
            return lineCount - 1;
        }

        /** The FUNCTION whose NAME is like a TOKEN, of this text or of another one. */
        int functionNamed(Tokens others, int t) {
            for (int f = 0; f < functionCount && f < functions.length; f++) {
                if (tokens.isLike(functions[f].name, others, t)) {
                    return f;
                }
            }
            return NONE;
        }
    }

    /**
     * Reads a text into a PROGRAM. From its first FAULT on it stands at the text's last TOKEN, which
     * nothing takes, so that all that is open comes to its end.
     */
    private static final class Reader {
        static final int NO_FAULT = 0;
        private static final int FORM = 1;
        private static final int TWICE = 2;
        private static final int MANY = 3;
        private static final int MISCALLED = 4;

        private static final int MOST_SUMS = 3;
        private static final int MOST_BLOCKS = 6;
        private static final int MOST_BRACKETS = 6;
        // A call has four bytes at least.
        private static final int MOST_CALLS = TAPE_BYTES / 4;

        int faultPlace;
        private int foundFault;
        private int faultToken;
        private Program program;
        private Tokens tokens;
        private Code code;
        private int next;

        private final int[] callNames;
        private final int[] callSums;
        private final int[] callActs;
        private final int[] callers;
        private int callCount;

        Reader() {
            callNames = new int[MOST_CALLS];
            callSums = new int[MOST_CALLS];
            callActs = new int[MOST_CALLS];
            callers = new int[MOST_CALLS];
        }

        /** Reads the first n bytes: the FAULT, or NO_FAULT if the PROGRAM stands. */
        int read(byte[] tape, int n, Program into) {
            program = into;
            tokens = into.tokens;
            code = into.code;
            program.clear();
            tokens.cut(tape, n);
            next = 0;
            callCount = 0;
            foundFault = NO_FAULT;
            faultToken = 0;
            readFunction();
            for (int more = 0; more < Program.MOST_FUNCTIONS && kind() != Tokens.END; more++) {
                readFunction();
            }
            if (foundFault == NO_FAULT) {
                joinCalls();
            }
            faultPlace = tokens.placeOf(faultToken);
            return foundFault;
        }

        private void readFunction() {
            if (kind() != Tokens.DEF) {
                fail(FORM);
                return;
            }
            int f = program.functionCount;
            if (f >= Program.MOST_FUNCTIONS) {
                fail(MANY);
                return;
            }
            Function function = program.functions[f];
            function.begin(next, program.lineCount, code.size);
            next++;
            readName(function);
            take('(');
            readPlaces(function);
            take(')');
            readBlock(1);
            code.add(Code.CLOSE, 0, 0);
            function.lastToken = next - 1;
            function.lineCount = program.lineCount - function.firstLine;
            program.functionCount++;
        }

        private void readName(Function function) {
            if (kind() != Tokens.NAME) {
                fail(FORM);
            } else if (program.functionNamed(tokens, next) != NONE) {
                fail(TWICE);
            } else {
                function.name = next;
                next++;
            }
        }

        private void readPlaces(Function function) {
            if (kind() == ')') {
                return;
            }
            readPlace(function);
            for (int more = 0; more < tokens.size && kind() == ','; more++) {
                next++;
                readPlace(function);
            }
        }

        private void readPlace(Function function) {
            if (kind() != Tokens.PLACE) {
                fail(FORM);
            } else if (function.hasPlace(tokens.letterOf(next))) {
                fail(TWICE);
            } else if (function.placeCount >= Function.MOST_PLACES) {
                fail(MANY);
            } else {
                function.addPlace(tokens.letterOf(next));
                next++;
            }
        }

        /** Reads a BLOCK that is the depth-th of those that stand within one another. */
        private void readBlock(int depth) {
            if (kind() != '{') {
                fail(FORM);
                return;
            }
            if (depth > MOST_BLOCKS) {
                fail(MANY);
                return;
            }
            next++;
            readLine(depth);
            for (int more = 0; more < tokens.size && kind() == ';'; more++) {
                next++;
                readLine(depth);
            }
            take('}');
        }

        private void readLine(int depth) {
            int lineKind = lineKindOf(kind());
            if (lineKind == NONE) {
                fail(FORM);
                return;
            }
            int l = program.addLine(lineKind, tokens.placeOf(next), depth);
            if (l == NONE) {
                fail(MANY);
                return;
            }
            int first = next;
            next++;
            code.add(Code.STEP, 0, l);
            switch (lineKind) {
                case Line.SET:
                    take('=');
                    readSum(0);
                    code.add(Code.SET, tokens.letterOf(first), l);
                    break;
                case Line.SAY:
                    readSum(0);
                    code.add(Code.SAY, 0, l);
                    break;
                case Line.RETURN:
                    readSum(0);
                    code.add(Code.RETURN, 0, l);
                    break;
                case Line.IF:
                    readIf(l, depth);
                    break;
                default:
                    readWhile(l, depth);
                    break;
            }
        }

        private static int lineKindOf(int tokenKind) {
            switch (tokenKind) {
                case Tokens.PLACE:
                    return Line.SET;
                case Tokens.SAY:
                    return Line.SAY;
                case Tokens.RETURN:
                    return Line.RETURN;
                case Tokens.IF:
                    return Line.IF;
                case Tokens.WHILE:
                    return Line.WHILE;
                default:
                    return NONE;
            }
        }

        private void readIf(int l, int depth) {
            readTest();
            int branch = code.add(Code.BRANCH, 0, l);
            readBlock(depth + 1);
            if (kind() != Tokens.ELSE) {
                code.setNumber(branch, code.size);
                return;
            }
            next++;
            int jump = code.add(Code.JUMP, 0, l);
            code.setNumber(branch, code.size);
            readBlock(depth + 1);
            code.setNumber(jump, code.size);
        }

        private void readWhile(int l, int depth) {
            int test = code.size;
            readTest();
            int branch = code.add(Code.BRANCH, 0, l);
            readBlock(depth + 1);
            code.add(Code.AGAIN, test, l);
            code.setNumber(branch, code.size);
        }

        private void readTest() {
            readSum(0);
            int sign = kind();
            if (sign != '<' && sign != '>' && sign != '=') {
                fail(FORM);
                return;
            }
            next++;
            readSum(0);
            code.add(sign == '<' ? Code.LESS : sign == '>' ? Code.MORE : Code.SAME, 0, 0);
        }

        /** Reads a SUM that stands within depth brackets of SUMS. */
        private void readSum(int depth) {
            readTerm(depth);
            for (int more = 0; more < tokens.size && (kind() == '+' || kind() == '-'); more++) {
                int act = kind() == '+' ? Code.ADD : Code.TAKE;
                next++;
                readTerm(depth);
                code.add(act, 0, 0);
            }
        }

        private void readTerm(int depth) {
            readPart(depth);
            for (int more = 0; more < tokens.size && kind() == '*'; more++) {
                next++;
                readPart(depth);
                code.add(Code.TIMES, 0, 0);
            }
        }

        private void readPart(int depth) {
            switch (kind()) {
                case Tokens.WHOLE:
                    code.add(Code.WHOLE, tokens.valueOf(next), 0);
                    next++;
                    break;
                case Tokens.PLACE:
                    code.add(Code.PLACE, tokens.letterOf(next), 0);
                    next++;
                    break;
                case '(':
                    openBracket(depth);
                    readSumWithin(depth);
                    take(')');
                    break;
                case Tokens.NAME:
                    readCall(depth);
                    break;
                default:
                    fail(FORM);
                    break;
            }
        }

        private void readCall(int depth) {
            int call = addCall(next);
            next++;
            openBracket(depth);
            int sums = readSums(depth);
            take(')');
            int act = code.add(Code.CALL, 0, 0);
            if (call >= 0 && call < callCount) {
                callSums[call] = sums;
                callActs[call] = act;
            }
        }

        /** Reads the SUMS of a call: how many there are. */
        private int readSums(int depth) {
            if (kind() == ')') {
                return 0;
            }
            readSumWithin(depth);
            int sums = 1;
            for (int more = 0; more < tokens.size && kind() == ','; more++) {
                next++;
                if (sums >= MOST_SUMS) {
                    fail(beginsSum(kind()) ? MANY : FORM);
                } else {
                    readSumWithin(depth);
                    sums++;
                }
            }
            return sums;
        }

        private void readSumWithin(int depth) {
            if (depth < MOST_BRACKETS) {
                readSum(depth + 1);
            }
        }

        private void openBracket(int depth) {
            if (kind() != '(') {
                fail(FORM);
            } else if (depth >= MOST_BRACKETS) {
                fail(MANY);
            } else {
                next++;
            }
        }

        private static boolean beginsSum(int tokenKind) {
            return tokenKind == Tokens.WHOLE || tokenKind == Tokens.PLACE
                    || tokenKind == Tokens.NAME || tokenKind == '(';
        }

        private int addCall(int nameToken) {
            if (callCount >= callNames.length) {
                return NONE;
            }
            callNames[callCount] = nameToken;
            callers[callCount] = program.functionCount;
            callCount++;
            return callCount - 1;
        }

        /** Only behind the whole text are all NAMES known that a call may mean. */
        private void joinCalls() {
            for (int i = 0; i < callCount && i < callNames.length; i++) {
                int f = program.functionNamed(tokens, callNames[i]);
                if (f == NONE || program.functions[f].placeCount != callSums[i]) {
                    next = callNames[i];
                    fail(MISCALLED);
                    return;
                }
                code.setNumber(callActs[i], f);
                if (program.hasFunction(callers[i])) {
                    program.functions[callers[i]].calls |= 1 << f;
                }
            }
        }

        private int kind() {
            boolean isThere = next >= 0 && next < tokens.size && next < tokens.kinds.length;
            return isThere ? tokens.kinds[next] : Tokens.END;
        }

        private void take(int sign) {
            if (kind() == sign) {
                next++;
            } else {
                fail(FORM);
            }
        }

        /** Only the first FAULT counts. */
        private void fail(int fault) {
            if (foundFault == NO_FAULT) {
                foundFault = fault;
                faultToken = next;
            }
            next = tokens.size - 1;
        }
    }

    /** Does a RUN, and keeps what came of it until the next one. */
    private static final class Machine {
        static final int TRUE_RULES = -1;
        static final int WRONG_RULES = 4;
        private static final int ALIKE_IS_LESS = 0;
        private static final int TAKES_FIRST = 1;
        private static final int LOOPS_ONCE = 2;
        private static final int ADDS_FOR_TIMES = 3;

        private static final int CAME_BACK = 0;
        private static final int NO_FUEL = 1;
        private static final int TOO_DEEP = 2;

        static final int PLACES = 8;
        private static final int MOST_CALLS = 8;
        private static final int MOST_SAID = 60;
        private static final int MOST_TRACE = 400;
        private static final int TRACE_PARTS = 4;
        // A call leaves fewer than 32 numbers open: four by each of seven SUMS, one by a TEST.
        private static final int STACK = 32 * (MOST_CALLS + 1);
        // A STEP has no more acts than the text has TOKENS, so no RUN comes near this.
        private static final int MOST_TURNS = 4000000;

        int end;
        int value;
        int steps;
        int saidCount;
        int traceCount;
        int deepest;
        long covers;
        private final int[] said;
        private final int[] trace;
        private final int[] places;

        private Program program;
        private int rule;
        private int fuel;
        private boolean going;
        private int next;
        private int depth;
        private final int[] backs;
        private final int[] stack;
        private int top;

        Machine() {
            said = new int[MOST_SAID];
            trace = new int[MOST_TRACE * TRACE_PARTS];
            places = new int[MOST_CALLS * PLACES];
            backs = new int[MOST_CALLS];
            stack = new int[STACK];
        }

        void start(Program ofProgram, int withFuel, int byRule) {
            program = ofProgram;
            fuel = withFuel;
            rule = byRule;
            end = NO_FUEL;
            value = 0;
            steps = 0;
            saidCount = 0;
            traceCount = 0;
            deepest = 0;
            covers = 0;
            depth = 0;
            top = 0;
            going = true;
        }

        void finish(int f, int x, int y, int z) {
            if (program == null || !program.hasFunction(f)) {
                return;
            }
            push(x);
            push(y);
            push(z);
            top = Math.min(top, program.functions[f].placeCount);
            enter(f);
            Code code = program.code;
            for (int turn = 0; turn < MOST_TURNS && going && code.has(next); turn++) {
                int at = next;
                next++;
                obey(code.acts[at], code.numbers[at], code.lines[at]);
            }
        }

        boolean keepsSaid(int i) {
            return i >= 0 && i < saidCount && i < said.length;
        }

        int saidAt(int i) {
            return keepsSaid(i) ? said[i] : 0;
        }

        boolean keepsTrace(int i, int what) {
            return i >= 0 && i < traceCount && i < MOST_TRACE && what >= 0 && what < TRACE_PARTS;
        }

        int traceAt(int i, int what) {
            return keepsTrace(i, what) ? trace[i * TRACE_PARTS + what] : 0;
        }

        int firstCallsPlace(int k) {
            return k >= 0 && k < PLACES ? places[k] : 0;
        }

        boolean tellsLike(Machine other) {
            if (end != other.end || value != other.value || saidCount != other.saidCount) {
                return false;
            }
            for (int i = 0; i < saidCount && i < said.length; i++) {
                if (said[i] != other.said[i]) {
                    return false;
                }
            }
            return true;
        }

        private void obey(int act, int number, int line) {
            switch (act) {
                case Code.STEP:
                    begin(line);
                    break;
                case Code.WHOLE:
                    push(number);
                    break;
                case Code.PLACE:
                    push(placeNow(number));
                    break;
                case Code.CALL:
                    enter(number);
                    break;
                case Code.SET:
                    set(number, line);
                    break;
                case Code.SAY:
                    say(line);
                    break;
                case Code.RETURN:
                    giveBack(line);
                    break;
                case Code.BRANCH:
                    branch(number, line);
                    break;
                case Code.AGAIN:
                    again(number);
                    break;
                case Code.JUMP:
                    next = number;
                    break;
                case Code.CLOSE:
                    leave(0);
                    break;
                default:
                    reckon(act);
                    break;
            }
        }

        private void reckon(int act) {
            int second = pop();
            int first = pop();
            switch (act) {
                case Code.ADD:
                    push(first + second);
                    break;
                case Code.TAKE:
                    push(rule == TAKES_FIRST ? second - first : first - second);
                    break;
                case Code.TIMES:
                    push(rule == ADDS_FOR_TIMES ? first + second : first * second);
                    break;
                case Code.LESS:
                    push(first < second || rule == ALIKE_IS_LESS && first == second ? 1 : 0);
                    break;
                case Code.MORE:
                    push(first > second ? 1 : 0);
                    break;
                default:
                    push(first == second ? 1 : 0);
                    break;
            }
        }

        private void begin(int line) {
            if (spendStep()) {
                covers |= 1L << line;
            }
        }

        private boolean spendStep() {
            if (steps >= fuel) {
                stop(NO_FUEL);
                return false;
            }
            steps++;
            return true;
        }

        private void stop(int how) {
            end = how;
            going = false;
        }

        private void enter(int f) {
            if (depth >= MOST_CALLS) {
                stop(TOO_DEEP);
                return;
            }
            if (!program.hasFunction(f)) {
                return;
            }
            Function function = program.functions[f];
            backs[depth] = next;
            depth++;
            deepest = Math.max(deepest, depth);
            for (int k = 0; k < PLACES; k++) {
                setPlace(k, 0);
            }
            for (int i = function.placeCount - 1; i >= 0; i--) {
                setPlace(function.placeAt(i), pop());
            }
            next = function.firstAct;
        }

        private void leave(int with) {
            depth--;
            if (depth <= 0 || depth >= backs.length) {
                value = with;
                stop(CAME_BACK);
                return;
            }
            next = backs[depth];
            push(with);
        }

        private void set(int k, int line) {
            int then = pop();
            note(line, k, placeNow(k), then);
            setPlace(k, then);
        }

        private void say(int line) {
            int what = pop();
            if (saidCount < said.length) {
                said[saidCount] = what;
            }
            saidCount++;
            note(line, NONE, 0, what);
        }

        private void giveBack(int line) {
            int what = pop();
            note(line, NONE, 0, what);
            leave(what);
        }

        private void branch(int otherwise, int line) {
            int holds = pop();
            note(line, NONE, 0, holds);
            if (holds == 0) {
                next = otherwise;
            }
        }

        private void again(int test) {
            if (rule != LOOPS_ONCE && spendStep()) {
                next = test;
            }
        }

        private void note(int line, int k, int ahead, int then) {
            if (traceCount < MOST_TRACE) {
                int at = traceCount * TRACE_PARTS;
                trace[at] = line;
                trace[at + 1] = k;
                trace[at + 2] = ahead;
                trace[at + 3] = then;
            }
            traceCount++;
        }

        private int placeNow(int k) {
            int at = (depth - 1) * PLACES + k;
            return at >= 0 && at < places.length ? places[at] : 0;
        }

        private void setPlace(int k, int to) {
            int at = (depth - 1) * PLACES + k;
            if (at >= 0 && at < places.length) {
                places[at] = to;
            }
        }

        private void push(int number) {
            if (top >= 0 && top < stack.length) {
                stack[top] = number;
                top++;
            }
        }

        private int pop() {
            if (top <= 0 || top > stack.length) {
                return 0;
            }
            top--;
            return stack[top];
        }
    }

    /** The ORDER of chapters, found when it is first asked for. */
    private static final class Chapters {
        private static final int MORE_THAN_ALL = Program.MOST_FUNCTIONS * Program.MOST_FUNCTIONS;

        // By the set of FUNCTIONS that are told already: the fewest calls ahead among the others.
        private final int[] best;
        private final int[] order;
        private boolean known;

        Chapters() {
            best = new int[1 << Program.MOST_FUNCTIONS];
            order = new int[Program.MOST_FUNCTIONS];
        }

        void forget() {
            known = false;
        }

        int callsAhead(Program program) {
            find(program);
            return best[0];
        }

        int functionAt(Program program, int i) {
            find(program);
            return i >= 0 && i < order.length ? order[i] : NONE;
        }

        private void find(Program program) {
            if (known) {
                return;
            }
            int all = Math.min(1 << program.functionCount, best.length) - 1;
            best[all] = 0;
            for (int set = all - 1; set >= 0; set--) {
                best[set] = costBehind(program, set, firstOfBest(program, set));
            }
            int set = 0;
            for (int i = 0; i < program.functionCount && i < order.length; i++) {
                order[i] = firstOfBest(program, set);
                set |= 1 << order[i];
            }
            known = true;
        }

        /** The FUNCTION of the least number that may best be told next behind a set. */
        private int firstOfBest(Program program, int set) {
            int first = 0;
            int least = MORE_THAN_ALL;
            for (int f = 0; f < program.functionCount; f++) {
                boolean isTold = (set >> f & 1) != 0;
                int cost = isTold ? MORE_THAN_ALL : costBehind(program, set, f);
                if (cost < least) {
                    least = cost;
                    first = f;
                }
            }
            return first;
        }

        private int costBehind(Program program, int set, int f) {
            int with = set | 1 << f;
            if (!program.hasFunction(f) || with < 0 || with >= best.length) {
                return 0;
            }
            return Integer.bitCount(program.functions[f].calls & ~with) + best[with];
        }
    }

    /** The RUNS told, each by the LINES that it COVERS. */
    private static final class Told {
        private static final int MOST_TOLD = 12;

        private final long[] covers;
        private final int[] chosen;
        private int chosenCount;
        private int chosenOf;
        int size;

        Told() {
            covers = new long[MOST_TOLD];
            chosen = new int[MOST_TOLD];
            chosenOf = NONE;
        }

        void forget() {
            size = 0;
            chosenCount = 0;
            chosenOf = NONE;
        }

        boolean isFull() {
            return size >= covers.length;
        }

        int add(long covered) {
            if (isFull()) {
                return NONE;
            }
            covers[size] = covered;
            size++;
            return size - 1;
        }

        long shownLines() {
            return linesOf((1 << size) - 1);
        }

        int chooseFewest() {
            if (chosenOf != size) {
                choose(fewestSet());
                chosenOf = size;
            }
            return chosenCount;
        }

        int chosenAt(int i) {
            return i >= 0 && i < chosenCount && i < chosen.length ? chosen[i] : NONE;
        }

        /**
         * In a set the first RUN is the highest bit: so, of sets of one size, the greatest number is
         * the first by the RUNS' numbers.
         */
        private int fewestSet() {
            int best = (1 << size) - 1;
            long all = linesOf(best);
            for (int set = best - 1; set >= 0; set--) {
                if (Integer.bitCount(set) < Integer.bitCount(best) && linesOf(set) == all) {
                    best = set;
                }
            }
            return best;
        }

        private void choose(int set) {
            chosenCount = 0;
            for (int r = 0; r < size && r < chosen.length; r++) {
                if (holds(set, r)) {
                    chosen[chosenCount] = r;
                    chosenCount++;
                }
            }
        }

        private long linesOf(int set) {
            long lines = 0;
            for (int r = 0; r < size && r < covers.length; r++) {
                if (holds(set, r)) {
                    lines |= covers[r];
                }
            }
            return lines;
        }

        private boolean holds(int set, int r) {
            return (set >> (size - 1 - r) & 1) != 0;
        }
    }

    /** What a PROGRAM has that is ANEW beside the one ahead of it, and what is gone. */
    private static final class Growth {
        private static final int SAME = 0;
        private static final int CALLS_NEW = 1;
        private static final int NEW = 2;

        private final int[] states;
        private final int[] reaches;
        int goneCount;

        Growth() {
            states = new int[Program.MOST_FUNCTIONS];
            reaches = new int[Program.MOST_FUNCTIONS];
        }

        int stateOf(int f) {
            return f >= 0 && f < states.length ? states[f] : NONE;
        }

        void compare(Program before, Program now) {
            int changed = 0;
            for (int f = 0; f < now.functionCount && f < states.length; f++) {
                if (isNew(before, now, f)) {
                    changed |= 1 << f;
                }
            }
            findReaches(now);
            for (int f = 0; f < now.functionCount && f < states.length; f++) {
                if ((changed >> f & 1) != 0) {
                    states[f] = NEW;
                } else {
                    states[f] = (reaches[f] & changed) != 0 ? CALLS_NEW : SAME;
                }
            }
            goneCount = countGone(before, now);
        }

        private static boolean isNew(Program before, Program now, int f) {
            if (!now.hasFunction(f)) {
                return true;
            }
            Function mine = now.functions[f];
            int g = before.functionNamed(now.tokens, mine.name);
            if (!before.hasFunction(g)) {
                return true;
            }
            Function old = before.functions[g];
            if (mine.lastToken - mine.firstToken != old.lastToken - old.firstToken) {
                return true;
            }
            for (int t = mine.firstToken; t <= mine.lastToken; t++) {
                if (!now.tokens.isLike(t, before.tokens, old.firstToken + t - mine.firstToken)) {
                    return true;
                }
            }
            return false;
        }

        /** All FUNCTIONS that each calls by others too, as bits. */
        private void findReaches(Program program) {
            int size = Math.min(program.functionCount, reaches.length);
            for (int f = 0; f < size; f++) {
                reaches[f] = program.functions[f].calls;
            }
            for (int through = 0; through < size; through++) {
                for (int f = 0; f < size; f++) {
                    if ((reaches[f] >> through & 1) != 0) {
                        reaches[f] |= reaches[through];
                    }
                }
            }
        }

        private static int countGone(Program before, Program now) {
            int missing = 0;
            for (int g = 0; g < before.functionCount && g < before.functions.length; g++) {
                if (now.functionNamed(before.tokens, before.functions[g].name) == NONE) {
                    missing++;
                }
            }
            return missing;
        }
    }
}
