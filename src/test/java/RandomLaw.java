import java.util.Random;

/** Texts that are LAWs, and texts that are nearly so. */
final class RandomLaw {
    private static final String[] WORDS = {"x", "y", "age", "height", "river", "coast", "wind"};
    private static final String[] ALL = {"sea", "sink", "live", "fish", "keep", "carry", "catch", "to", "if", "or", "and",
        "not", "(", ")", "<", ">", "=", ";", "x", "age", "wind", "fished", "cored", "grabbed", "0", "5", "10", "11", "99",
        "100", "101", "9999", "10000", "00007", "\t", "A", "\0", "\u00ff", "iff", "-"};
    private final Random random;
    private final StringBuilder text = new StringBuilder();

    RandomLaw(Random random) {
        this.random = random;
    }

    private int to(int most) {
        return random.nextInt(most + 1);
    }

    private void put(String token) {
        boolean joins = text.length() > 0 && Character.isLetterOrDigit(token.charAt(0))
                && Character.isLetter(token.charAt(0)) == Character.isLetter(text.charAt(text.length() - 1))
                && Character.isLetterOrDigit(text.charAt(text.length() - 1));
        if (joins || random.nextInt(4) == 0) {
            text.append(random.nextInt(8) == 0 ? "\n" : " ");
        }
        text.append(token);
    }

    private void number(int most) {
        int edge = random.nextInt(12);
        int n = edge == 0 ? most : edge == 1 ? 0 : to(most);
        put(random.nextInt(10) == 0 && n < 1000 ? "0" + n : "" + n);
    }

    /** At most so many bytes. */
    byte[] make(int rules, int most) {
        text.setLength(0);
        int whole = 0;
        for (int r = 0; r < rules; r++) {
            rule();
            put(";");
            if (text.length() > most) {
                text.setLength(whole);
                break;
            }
            whole = text.length();
        }
        return Check.bytes(text.toString());
    }

    private void rule() {
        switch (random.nextInt(12)) {
            case 0, 1, 2 -> {
                put("sea");
                number(99);
                int low = to(99);
                put("" + low);
                if (random.nextBoolean()) {
                    put("to");
                    put("" + (low + to(Math.min(99 - low, 20))));
                }
            }
            case 3 -> {
                put("carry");
                put(ALL[21 + random.nextInt(3)]);
                number(100);
            }
            case 4 -> {
                put("catch");
                number(10);
            }
            case 5 -> asking("sink", 40);
            case 6, 7 -> asking("fish", 99);
            case 8 -> asking("keep", 100);
            default -> asking("live", 99);
        }
    }

    private void asking(String kind, int most) {
        put(kind);
        number(most);
        if (random.nextInt(4) > 0) {
            put("if");
            any(0);
        }
    }

    private void any(int open) {
        all(open);
        while (random.nextInt(4) == 0) {
            put("or");
            all(open);
        }
    }

    private void all(int open) {
        one(open);
        while (random.nextInt(4) == 0) {
            put("and");
            one(open);
        }
    }

    private void one(int open) {
        int what = random.nextInt(7);
        if (what == 0 && open < 9) {
            put("not");
            one(open + 1);
        } else if (what == 1 && open < 9) {
            put("(");
            any(open + 1);
            put(")");
        } else {
            String word = WORDS[random.nextInt(7)];
            put(word);
            put("" + "<>=".charAt(random.nextInt(3)));
            number(switch (word) {
                case "x", "y" -> 15;
                case "age" -> 101;
                case "height" -> 70;
                case "river", "coast" -> 12;
                default -> 8;
            });
        }
    }

    /** A text with some of its bytes or tokens other, more or fewer. */
    byte[] spoil(byte[] law) {
        StringBuilder s = new StringBuilder(new String(law, java.nio.charset.StandardCharsets.ISO_8859_1));
        for (int i = random.nextInt(3); i >= 0; i--) {
            int at = to(s.length());
            switch (random.nextInt(4)) {
                case 0 -> s.insert(at, ALL[random.nextInt(ALL.length)]);
                case 1 -> s.insert(at, " " + ALL[random.nextInt(ALL.length)] + " ");
                case 2 -> s.setLength(at);
                default -> {
                    if (at < s.length()) {
                        s.deleteCharAt(at);
                    }
                }
            }
        }
        if (s.length() > 700) {
            s.setLength(700);
        }
        return Check.bytes(s.toString());
    }
}
