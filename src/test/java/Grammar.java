import java.util.ArrayList;
import java.util.LinkedHashSet;
import java.util.List;
import java.util.regex.Matcher;
import java.util.regex.Pattern;

/**
 * Finds a text's FAULT by the document's grammar as it is written (Earley's way), and by a look along
 * the TOKENS that go with it: it shares nothing with the class's own reading.
 */
final class Grammar {
    private static final Pattern TOKEN = Pattern.compile("[a-z]+|[0-9]+|[(){},;=<>+*-]");

    // The first rule's left side is the start; what no left side bears is a TOKEN.
    private static final String[][] RULES = {
        {"Start", "Program"},
        {"Program", "Function"},
        {"Program", "Program", "Function"},
        {"Function", "def", "name", "(", ")", "Block"},
        {"Function", "def", "name", "(", "Places", ")", "Block"},
        {"Places", "place"},
        {"Places", "Places", ",", "place"},
        {"Block", "{", "Lines", "}"},
        {"Lines", "Line"},
        {"Lines", "Lines", ";", "Line"},
        {"Line", "place", "=", "Sum"},
        {"Line", "say", "Sum"},
        {"Line", "return", "Sum"},
        {"Line", "if", "Test", "Block"},
        {"Line", "if", "Test", "Block", "else", "Block"},
        {"Line", "while", "Test", "Block"},
        {"Test", "Sum", "<", "Sum"},
        {"Test", "Sum", ">", "Sum"},
        {"Test", "Sum", "=", "Sum"},
        {"Sum", "Term"},
        {"Sum", "Sum", "+", "Term"},
        {"Sum", "Sum", "-", "Term"},
        {"Term", "Part"},
        {"Term", "Term", "*", "Part"},
        {"Part", "whole"},
        {"Part", "place"},
        {"Part", "(", "Sum", ")"},
        {"Part", "name", "(", ")"},
        {"Part", "name", "(", "Sums", ")"},
        {"Sums", "Sum"},
        {"Sums", "Sums", ",", "Sum"},
    };

    private final String text;
    private final List<String> kinds = new ArrayList<>();
    private final List<String> words = new ArrayList<>();
    private final List<Integer> places = new ArrayList<>();
    int fault = 0;
    int where = -1;

    Grammar(String text) {
        this.text = text;
        cut();
        int fits = fitting();
        if (fits < kinds.size()) {
            meet(1, places.get(fits));
        }
        lookAlong(Math.min(fits, kinds.size() - 1));
        if (fault == 0) {
            lookAtCalls();
        }
    }

    private void meet(int number, int place) {
        if (fault == 0 || place < where || place == where && number < fault) {
            fault = number;
            where = place;
        }
    }

    private void cut() {
        Matcher matcher = TOKEN.matcher(text);
        int at = 0;
        while (at < text.length()) {
            char sign = text.charAt(at);
            if (sign == ' ' || sign == '\n') {
                at++;
            } else if (matcher.find(at) && matcher.start() == at && kindOf(matcher.group()) != null) {
                add(kindOf(matcher.group()), matcher.group(), at);
                at = matcher.end();
            } else {
                add("bad", "", at);
                return;
            }
        }
        add("end", "", text.length());
    }

    private void add(String kind, String word, int at) {
        kinds.add(kind);
        words.add(word);
        places.add(at);
    }

    private static String kindOf(String word) {
        if (word.matches("[0-9]+")) {
            return word.length() <= 5 ? "whole" : null;
        }
        if (!word.matches("[a-z]+") || word.matches("def|say|return|if|else|while")) {
            return word;
        }
        if (word.length() == 1) {
            return word.matches("[a-h]") ? "place" : "odd";
        }
        return word.length() <= 8 ? "name" : null;
    }

    /** An item: a rule's number, how far it has come, where it began. */
    private record Item(int rule, int dot, int from) {
        String next() {
            return dot + 1 < RULES[rule].length ? RULES[rule][dot + 1] : null;
        }

        Item moved() {
            return new Item(rule, dot + 1, from);
        }
    }

    private static boolean isSide(String symbol) {
        return Character.isUpperCase(symbol.charAt(0));
    }

    /** How many TOKENS go with some PROGRAM; the end is one. */
    private int fitting() {
        List<List<Item>> sets = new ArrayList<>();
        LinkedHashSet<Item> set = new LinkedHashSet<>();
        set.add(new Item(0, 0, 0));
        for (int t = 0; t < kinds.size(); t++) {
            List<Item> items = closed(set, sets, t);
            sets.add(items);
            String kind = kinds.get(t);
            set = new LinkedHashSet<>();
            boolean whole = false;
            for (Item item : items) {
                if (kind.equals(item.next())) {
                    set.add(item.moved());
                }
                whole |= item.rule() == 0 && item.next() == null;
            }
            if (kind.equals("end") ? !whole : set.isEmpty()) {
                return t;
            }
        }
        return kinds.size();
    }

    private static List<Item> closed(LinkedHashSet<Item> start, List<List<Item>> sets, int t) {
        LinkedHashSet<Item> seen = new LinkedHashSet<>(start);
        List<Item> items = new ArrayList<>(start);
        for (int i = 0; i < items.size(); i++) {
            Item item = items.get(i);
            List<Item> more = new ArrayList<>();
            if (item.next() == null) {
                // no rule is empty, so what waits for this one stands in an earlier set
                for (Item waiting : sets.get(item.from())) {
                    if (RULES[item.rule()][0].equals(waiting.next())) {
                        more.add(waiting.moved());
                    }
                }
            } else if (isSide(item.next())) {
                for (int r = 0; r < RULES.length; r++) {
                    if (RULES[r][0].equals(item.next())) {
                        more.add(new Item(r, 0, t));
                    }
                }
            }
            for (Item one : more) {
                if (seen.add(one)) {
                    items.add(one);
                }
            }
        }
        return items;
    }

    /** TWICE and MANY among TOKENS that go with a PROGRAM, up to the one that doesn't. */
    private void lookAlong(int last) {
        List<String> names = new ArrayList<>();
        List<String> heads = new ArrayList<>();
        List<Integer> sums = new ArrayList<>();
        int braces = 0;
        int lines = 0;
        boolean inHead = false;
        for (int t = 0; t <= last; t++) {
            String kind = kinds.get(t);
            int at = places.get(t);
            String ahead = t > 0 ? kinds.get(t - 1) : "";
            if (kind.equals("def")) {
                inHead = true;
                heads.clear();
                if (names.size() == 10) {
                    meet(3, at);
                }
            } else if (inHead) {
                if (kind.equals("name")) {
                    if (names.contains(words.get(t))) {
                        meet(2, at);
                    }
                    names.add(words.get(t));
                } else if (kind.equals("place")) {
                    if (heads.contains(words.get(t))) {
                        meet(2, at);
                    }
                    heads.add(words.get(t));
                    if (heads.size() == 4) {
                        meet(3, at);
                    }
                }
                inHead = !kind.equals(")");
            } else if (kind.equals("{")) {
                braces++;
                if (braces == 7) {
                    meet(3, at);
                }
            } else if (kind.equals("}")) {
                braces--;
            } else if (kind.equals("(")) {
                sums.add(1);
                if (sums.size() == 7) {
                    meet(3, at);
                }
            } else if (kind.equals(")") && !sums.isEmpty()) {
                sums.remove(sums.size() - 1);
            } else if (kind.equals(",") && !sums.isEmpty()) {
                sums.set(sums.size() - 1, sums.get(sums.size() - 1) + 1);
            }
            if (!inHead && ahead.equals(",") && !sums.isEmpty()) {
                // a ( that begins the fourth SUM has its own count on top already
                int top = sums.size() - (kind.equals("(") ? 2 : 1);
                if (top >= 0 && sums.get(top) == 4) {
                    meet(3, at);
                }
            }
            if (!inHead && (ahead.equals("{") || ahead.equals(";"))) {
                lines++;
                if (lines == 61) {
                    meet(3, at);
                }
            }
        }
    }

    private void lookAtCalls() {
        List<String> names = new ArrayList<>();
        List<Integer> counts = new ArrayList<>();
        for (int t = 1; t < kinds.size(); t++) {
            if (kinds.get(t - 1).equals("def")) {
                names.add(words.get(t));
                counts.add(inBrackets(t + 1));
            }
        }
        for (int t = 1; t < kinds.size(); t++) {
            if (kinds.get(t).equals("name") && !kinds.get(t - 1).equals("def")) {
                int f = names.indexOf(words.get(t));
                if (f < 0 || counts.get(f) != inBrackets(t + 1)) {
                    meet(4, places.get(t));
                    return;
                }
            }
        }
    }

    /** How many things, parted by commas, stand in the brackets that open at t. */
    private int inBrackets(int t) {
        if (kinds.get(t + 1).equals(")")) {
            return 0;
        }
        int depth = 0;
        int things = 1;
        for (int u = t; u < kinds.size(); u++) {
            if (kinds.get(u).equals("(")) {
                depth++;
            } else if (kinds.get(u).equals(")")) {
                depth--;
                if (depth == 0) {
                    return things;
                }
            } else if (kinds.get(u).equals(",") && depth == 1) {
                things++;
            }
        }
        return things;
    }
}
