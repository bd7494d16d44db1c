import java.nio.charset.StandardCharsets;
import java.util.ArrayList;
import java.util.List;
import java.util.Set;
import java.util.TreeSet;
import java.util.regex.Matcher;
import java.util.regex.Pattern;

/**
 * A LAW kept as its tokens and asked by going through them anew each time. The FAULT is found by
 * trying the grammar from every place at once and taking the furthest place that was tried.
 */
final class NaiveLaw {
    private final List<String> tokens = new ArrayList<>();
    private final List<Integer> places = new ArrayList<>();
    private int furthest = 0;
    private int length;
    int fault = -1;
    /** The RULES, each a list of tokens without ";". */
    final List<List<String>> rules = new ArrayList<>();

    NaiveLaw(byte[] text) {
        length = text.length;
        split(text);
        fault = findFault();
        if (fault == -1) {
            List<String> rule = new ArrayList<>();
            for (String token : tokens) {
                if (token.equals(";")) {
                    rules.add(rule);
                    rule = new ArrayList<>();
                } else {
                    rule.add(token);
                }
            }
        }
    }

    private void split(byte[] text) {
        String s = new String(text, StandardCharsets.ISO_8859_1);
        Matcher token = Pattern.compile("[a-z]+|[0-9]+|[^ \n]").matcher(s);
        while (token.find()) {
            tokens.add(token.group());
            places.add(token.start());
        }
    }

    private int findFault() {
        Set<Integer> ends = new TreeSet<>();
        Set<Integer> at = new TreeSet<>();
        at.add(0);
        for (int r = 0; r <= 40; r++) {
            ends.addAll(at);
            if (r == 40) {
                for (int p : at) {
                    furthest = Math.max(furthest, p);
                }
            } else {
                at = word(rule(at), ";");
            }
        }
        if (ends.contains(tokens.size())) {
            return -1;
        }
        return furthest < tokens.size() ? places.get(furthest) : length;
    }

    private Set<Integer> word(Set<Integer> at, String... words) {
        Set<Integer> then = new TreeSet<>();
        for (int p : at) {
            furthest = Math.max(furthest, p);
            for (String w : words) {
                if (p < tokens.size() && tokens.get(p).equals(w)) {
                    then.add(p + 1);
                }
            }
        }
        return then;
    }

    private Set<Integer> number(Set<Integer> at, int least, int most) {
        Set<Integer> then = new TreeSet<>();
        for (int p : at) {
            furthest = Math.max(furthest, p);
            if (p < tokens.size() && tokens.get(p).matches("[0-9]{1,4}")) {
                int n = Integer.parseInt(tokens.get(p));
                if (n >= least && n <= most) {
                    then.add(p + 1);
                }
            }
        }
        return then;
    }

    private static Set<Integer> both(Set<Integer> a, Set<Integer> b) {
        Set<Integer> all = new TreeSet<>(a);
        all.addAll(b);
        return all;
    }

    private Set<Integer> rule(Set<Integer> at) {
        Set<Integer> then = new TreeSet<>();
        for (int low = 0; low <= 99; low++) {
            Set<Integer> level = number(number(word(at, "sea"), 0, 99), low, low);
            then = both(then, both(level, number(word(level, "to"), low, 99)));
        }
        then = both(then, asking(number(word(at, "sink", "live", "fish"), 0, 99)));
        then = both(then, asking(number(word(at, "keep"), 0, 100)));
        then = both(then, number(word(word(at, "carry"), "fished", "cored", "grabbed"), 0, 100));
        return both(then, number(word(at, "catch"), 0, 10));
    }

    private Set<Integer> asking(Set<Integer> at) {
        return both(at, any(word(at, "if"), 0));
    }

    private Set<Integer> any(Set<Integer> at, int open) {
        Set<Integer> then = new TreeSet<>();
        Set<Integer> more = all(at, open);
        while (!then.containsAll(more)) {
            then = both(then, more);
            more = all(word(more, "or"), open);
        }
        return then;
    }

    private Set<Integer> all(Set<Integer> at, int open) {
        Set<Integer> then = new TreeSet<>();
        Set<Integer> more = one(at, open);
        while (!then.containsAll(more)) {
            then = both(then, more);
            more = one(word(more, "and"), open);
        }
        return then;
    }

    private Set<Integer> one(Set<Integer> at, int open) {
        if (at.isEmpty()) {
            return at;
        }
        Set<Integer> then = number(word(word(at, "x", "y", "age", "height", "river", "coast", "wind"), "<", ">", "="), 0, 9999);
        if (open < 9) {
            then = both(then, one(word(at, "not"), open + 1));
            then = both(then, word(any(word(at, "("), open + 1), ")"));
        }
        return then;
    }

    // ---- asking a LAW without a FAULT ----

    int[] sea(int age) {
        int[] levels = {0, 0};
        int best = -1;
        for (List<String> rule : rules) {
            if (rule.get(0).equals("sea")) {
                int then = Integer.parseInt(rule.get(1));
                if (then <= age && then >= best) {
                    best = then;
                    levels[0] = Integer.parseInt(rule.get(2));
                    levels[1] = Integer.parseInt(rule.get(rule.size() - 1));
                }
            }
        }
        return levels;
    }

    int catching() {
        int n = 0;
        for (List<String> rule : rules) {
            n = rule.get(0).equals("catch") ? Integer.parseInt(rule.get(1)) : n;
        }
        return n;
    }

    int carrying(int how) {
        String word = how == 0 ? "fished" : how == 1 ? "cored" : "grabbed";
        int n = 0;
        for (List<String> rule : rules) {
            n = rule.get(0).equals("carry") && rule.get(1).equals(word) ? Integer.parseInt(rule.get(2)) : n;
        }
        return n;
    }

    /** words: x, y, age, height, river, coast, wind. */
    int first(String kind, int otherwise, int... words) {
        for (List<String> rule : rules) {
            if (rule.get(0).equals(kind) && (rule.size() == 2 || holds(rule.subList(3, rule.size()), words))) {
                return Integer.parseInt(rule.get(1));
            }
        }
        return otherwise;
    }

    /** Splits at "or" outside brackets, then at "and", then takes "not" and brackets off. */
    private static boolean holds(List<String> part, int[] words) {
        int or = outside(part, "or");
        if (or >= 0) {
            return holds(part.subList(0, or), words) || holds(part.subList(or + 1, part.size()), words);
        }
        int and = outside(part, "and");
        if (and >= 0) {
            return holds(part.subList(0, and), words) && holds(part.subList(and + 1, part.size()), words);
        }
        if (part.get(0).equals("not")) {
            return !holds(part.subList(1, part.size()), words);
        }
        if (part.get(0).equals("(")) {
            return holds(part.subList(1, part.size() - 1), words);
        }
        int word = words[List.of("x", "y", "age", "height", "river", "coast", "wind").indexOf(part.get(0))];
        int number = Integer.parseInt(part.get(2));
        return switch (part.get(1)) {
            case "<" -> word < number;
            case ">" -> word > number;
            default -> word == number;
        };
    }

    private static int outside(List<String> part, String word) {
        int open = 0;
        for (int i = 0; i < part.size(); i++) {
            open += part.get(i).equals("(") ? 1 : part.get(i).equals(")") ? -1 : 0;
            if (open == 0 && part.get(i).equals(word)) {
                return i;
            }
        }
        return -1;
    }
}
