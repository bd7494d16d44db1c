import java.nio.charset.StandardCharsets;
import java.util.Arrays;

/** What every test here uses: a call's answer against the one that is due, and texts put on the tape. */
final class Check {
    private static int wrong = 0;
    private static int calls = 0;

    private Check() {
    }

    static void due(String call, long got, long want) {
        calls++;
        if (got != want) {
            wrong++;
            if (wrong <= 60) {
                System.out.println(call + " answered " + got + ", due is " + want);
            }
        }
    }

    static void due(String call, boolean got, boolean want) {
        due(call, got ? 1 : 0, want ? 1 : 0);
    }

    static boolean isWell() {
        return wrong == 0;
    }

    static void end(String test) {
        System.out.println(test + ": " + calls + " answers, " + wrong + " not as due");
        if (wrong != 0) {
            System.exit(1);
        }
    }

    /** Feeds a text, filled up with blanks to whole feeds. */
    static void feed(Land x, byte[] text) {
        byte[] whole = filled(text);
        for (int i = 0; i < whole.length; i += 20) {
            x.feed(four(whole, i), four(whole, i + 4), four(whole, i + 8), four(whole, i + 12), four(whole, i + 16));
        }
    }

    /** A text filled up with blanks to whole feeds. */
    static byte[] filled(byte[] text) {
        byte[] whole = Arrays.copyOf(text, (text.length + 19) / 20 * 20);
        Arrays.fill(whole, text.length, whole.length, (byte) 32);
        return whole;
    }

    static int four(byte[] bytes, int i) {
        return (bytes[i] & 255) << 24 | (bytes[i + 1] & 255) << 16 | (bytes[i + 2] & 255) << 8 | bytes[i + 3] & 255;
    }

    static byte[] bytes(String text) {
        return text.getBytes(StandardCharsets.ISO_8859_1);
    }

    /** Tells a LAW as it stands in the text, answering what law() answers. */
    static int law(Land x, String text) {
        feed(x, bytes(text));
        return x.law(text.length());
    }

    /** A new object with this LAW. */
    static Land under(String text) {
        Land x = new Land();
        if (law(x, text) < 0) {
            due("law(\"" + text + "\") has a FAULT at", x.fault(), Land.NONE);
        }
        return x;
    }
}
