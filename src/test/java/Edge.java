import java.io.IOException;
import java.nio.charset.StandardCharsets;
import java.nio.file.Files;
import java.nio.file.Path;
import java.util.Map;
import java.util.TreeMap;

/**
 * A sentence of the document beside what is tried for it. Each sentence must stand in the document as it is quoted,
 * in the Terms of that number or under the promise of that number, and must have at least one answer tried for it.
 * "At the edge and one step to each side" is what the tests that use this are for.
 */
final class Edge {
    static final int PROMISES = 41;
    private static final Map<String, Integer> SENTENCES = new TreeMap<>();
    private static String section = "";
    private static String sentence = "";
    private static int tried = 1;

    private Edge() {
    }

    /** What is tried from here on is tried for this sentence of "What it is". */
    static void head(String words) {
        turnTo("What it is", words);
    }

    /** What is tried from here on is tried for this sentence of "Terms" 1, 2 or 3. */
    static void terms(int number, String words) {
        turnTo("Terms " + number, words);
    }

    /** What is tried from here on is tried for this sentence of a promise. */
    static void promise(int number, String words) {
        turnTo("Promise " + number, words);
    }

    static void due(String call, long got, long want) {
        tried++;
        Check.due(section + " \"" + sentence + "\": " + call, got, want);
    }

    static void due(String call, boolean got, boolean want) {
        due(call, got ? 1 : 0, want ? 1 : 0);
    }

    /** A text that is a LAW of so many RULES. */
    static void good(String text, int rules) {
        Land x = new Land();
        due("law \"" + text + "\"", Check.law(x, text), rules);
        due("fault() of \"" + text + "\"", x.fault(), -1);
        due("RULES of \"" + text + "\"", x.count(0), rules);
        due("REFUSED of \"" + text + "\"", x.count(10), 0);
    }

    /** A text with a FAULT at this place. */
    static void bad(String text, int place) {
        Land x = new Land();
        due("law \"" + text + "\"", Check.law(x, text), -1);
        due("fault() of \"" + text + "\"", x.fault(), place);
        due("RULES of \"" + text + "\"", x.count(0), 0);
        due("REFUSED of \"" + text + "\"", x.count(10), 1);
    }

    private static void turnTo(String newSection, String words) {
        end();
        section = newSection;
        sentence = words;
        tried = 0;
        SENTENCES.merge(newSection + "|" + words, 1, Integer::sum);
    }

    /** Looks whether the sentence in hand has something tried for it. */
    static void end() {
        if (tried == 0) {
            Check.due(section + " \"" + sentence + "\": answers tried", 0, 1);
        }
    }

    /** Looks for each sentence in the document, and for a sentence of each promise. */
    static void checkSentences(Path document) throws IOException {
        if (!Files.isReadable(document)) {
            System.out.println("the sentences are not looked for: there is no " + document);
            return;
        }
        Map<String, String> sections = sections(Files.readString(document, StandardCharsets.UTF_8));
        int[] quoted = new int[PROMISES + 1];
        for (String each : SENTENCES.keySet()) {
            String in = each.substring(0, each.indexOf('|'));
            String words = each.substring(each.indexOf('|') + 1);
            Check.due(in + " has the sentence \"" + words + "\"", sections.getOrDefault(in, "").contains(words), true);
            if (in.startsWith("Promise ")) {
                quoted[Integer.parseInt(in.substring(8))]++;
            }
        }
        for (int p = 1; p <= PROMISES; p++) {
            Check.due("promise " + p + " has a sentence tried", quoted[p] > 0, true);
        }
        System.out.println(SENTENCES.size() + " sentences of the document tried");
        if (Boolean.getBoolean("drowned.untried")) {
            untried(sections);
        }
    }

    /** Tells what of the Terms and promises stands in no sentence that is tried, to be looked at by eye. */
    private static void untried(Map<String, String> sections) {
        sections.forEach((name, words) -> {
            String rest = words;
            for (String each : SENTENCES.keySet()) {
                if (each.startsWith(name + "|")) {
                    rest = rest.replace(each.substring(each.indexOf('|') + 1), "..");
                }
            }
            System.out.println(name + ": " + rest);
        });
    }

    /** The document's text by its sections: "What it is", "Terms 1", "Promise 1" and so on. */
    private static Map<String, String> sections(String text) {
        Map<String, String> all = new TreeMap<>();
        String name = "";
        for (String line : text.split("\n")) {
            if (line.startsWith("==== ")) {
                name = "Terms " + line.charAt(5);
            } else if (line.startsWith("## ")) {
                name = line.substring(3).split(":")[0];
            }
            all.merge(name, line + " ", String::concat);
        }
        all.replaceAll((each, words) -> words.replaceAll("\\s+", " "));
        return all;
    }
}
