import java.lang.reflect.Constructor;
import java.lang.reflect.Field;
import java.lang.reflect.Method;
import java.lang.reflect.Modifier;
import java.nio.charset.StandardCharsets;
import java.nio.file.Files;
import java.nio.file.Path;
import java.util.Set;
import java.util.TreeSet;
import java.util.regex.Matcher;
import java.util.regex.Pattern;

/** What of LANGUAGE.md can be seen from the source and by reflection. */
public final class LanguageTest {
    private static final String[] FACE = {
        "boolean sound(int, int, int)", "int feed(int, int, int, int, int)", "int law(int)", "int fault()", "int sea(int, int)",
        "int cell(int, int)", "int asked(int, int, int)", "int shore(int)", "int alone(int, int, int)",
        "long lived(int, int, int, int)", "int dry(int, boolean)", "int learnt(int, int)", "int tried(int)",
        "int bucket(int, int)", "long left(int, int, int)", "int find(int, int, int, int)", "int found(int, int)",
        "long carried(int, int)", "int gone(int, int, int, int)", "int rest(int, int, int, int)", "int mud(int, boolean)",
        "int height(int, int, int)", "int place(int)", "int ship(int, int, int)", "int lean(int, int)",
        "long right(int, int, int)", "int ahead(int, int)", "int held(int, int, int)", "int world(int, int, int, int, int)",
        "int say(int, int)", "int ford(int, int, int)", "int ends(int, int)", "int letter(boolean, int, int, int)",
        "int levels(int, int)", "int fits(int)", "int unlike(int)", "int doubt(int)", "int image()", "boolean restore(int)",
        "int count(int)"};

    private LanguageTest() {
    }

    public static void main(String[] args) throws Exception {
        face();
        classes();
        String source = Files.readString(Path.of(System.getProperty("drowned.source", "src/main/java/DrownedLand.java")),
                StandardCharsets.ISO_8859_1);
        words(source);
        lengths(source);
        Check.end("LanguageTest");
    }

    /** Rule 1. */
    private static void face() {
        Set<String> wanted = new TreeSet<>(Set.of(FACE));
        Set<String> names = new TreeSet<>();
        for (Method m : DrownedLand.class.getDeclaredMethods()) {
            if (Modifier.isPrivate(m.getModifiers())) {
                continue;
            }
            StringBuilder s = new StringBuilder(m.getReturnType() + " " + m.getName() + "(");
            for (Class<?> type : m.getParameterTypes()) {
                s.append(s.charAt(s.length() - 1) == '(' ? "" : ", ").append(type);
            }
            Check.due("in the face: " + s.append(")"), wanted.remove(s.toString()), true);
            names.add(m.getName());
        }
        Check.due("methods that lack: " + wanted, wanted.size(), 0);
        for (Class<?> c : DrownedLand.class.getDeclaredClasses()) {
            check(c, names);
        }
        check(DrownedLand.class, names);
        for (Field f : DrownedLand.class.getDeclaredFields()) {
            Check.due("private unless it is NONE: " + f, Modifier.isPrivate(f.getModifiers()), !f.getName().equals("NONE"));
        }
        Constructor<?>[] made = DrownedLand.class.getDeclaredConstructors();
        Check.due("one constructor", made.length, 1);
        Check.due("public", Modifier.isPublic(made[0].getModifiers()), true);
        Check.due("final", Modifier.isFinal(DrownedLand.class.getModifiers()), true);
    }

    private static void check(Class<?> c, Set<String> names) {
        for (Method m : c.getDeclaredMethods()) {
            boolean bears = Modifier.isPrivate(m.getModifiers()) && names.contains(m.getName());
            Check.due("bears a public one's name: " + m, bears, false);
            Check.due("at most seven parameters: " + m, m.getParameterCount() <= 7, true);
        }
    }

    /** Rules 2, 5 and 11. */
    private static void classes() {
        Class<?>[] all = DrownedLand.class.getDeclaredClasses();
        Check.due("some twelve classes", all.length <= 12, true);
        for (Class<?> c : all) {
            Check.due("static: " + c, Modifier.isStatic(c.getModifiers()), true);
            fields(c);
        }
        fields(DrownedLand.class);
    }

    private static void fields(Class<?> c) {
        int own = 0;
        for (Field f : c.getDeclaredFields()) {
            if (Modifier.isStatic(f.getModifiers())) {
                Check.due("static and final: " + f, Modifier.isFinal(f.getModifiers()), true);
            } else {
                own++;
            }
        }
        Check.due("some twenty fields: " + c, own <= 20, true);
    }

    /** Rules 4, 6 and 13, over the source without its comments and texts. */
    private static void words(String source) {
        String code = source.replaceAll("(?s)/\\*.*?\\*/", " ").replaceAll("//[^\n]*", " ").replaceAll("\"[^\"\n]*\"", "\"\"");
        for (String word : new String[] {"throw", "throws", "try", "catch", "finally", "synchronized", "assert", "hashCode",
            "toString", "instanceof", "native", "volatile", "Random", "Thread", "System\\.nanoTime", "System\\.out", "Exact",
            "protected", "yield", "var", "double", "float"}) {
            Check.due("no " + word, Pattern.compile("\\b" + word + "\\b").matcher(code).find(), false);
        }
        for (String sign : new String[] {"->", "::", "@"}) {
            Check.due("no " + sign, code.contains(sign), false);
        }
        Matcher imports = Pattern.compile("import [^;]*;").matcher(code);
        while (imports.find()) {
            Check.due(imports.group(), imports.group().equals("import java.util.Arrays;"), true);
        }
        Matcher library = Pattern.compile("\\b(Arrays|System|Math|Long|Integer)\\.(\\w+)").matcher(code);
        Set<String> allowed = Set.of("Arrays.fill", "System.arraycopy", "Math.min", "Math.max", "Math.abs", "Long.compare");
        while (library.find()) {
            Check.due(library.group(), allowed.contains(library.group()), true);
        }
        Matcher rows = Pattern.compile("boolean\\[\\] (\\w+)").matcher(code);
        while (rows.find()) {
            boolean used = Pattern.compile("(fill|arraycopy)\\([^;]*\\b" + rows.group(1) + "\\b").matcher(code).find();
            Check.due("fill and copies are of numbers alone: " + rows.group(1), used, false);
        }
        for (char c : source.toCharArray()) {
            if (c >= 127 || c < 32 && c != '\n') {
                Check.due("plain signs alone", c, ' ');
            }
        }
    }

    /** Rule 11: methods stay short. */
    private static void lengths(String source) {
        int start = 0;
        String[] lines = source.split("\n");
        String indent = "";
        for (int i = 0; i < lines.length; i++) {
            Matcher m = Pattern.compile("^( {4}| {8})(\\w[\\w\\[\\] ]*)\\(.*\\{$").matcher(lines[i]);
            if (m.find() && !lines[i].contains(" class ")) {
                start = i;
                indent = m.group(1);
            } else if (lines[i].equals(indent + "}") && start > 0) {
                Check.due("some sixty lines: " + lines[start].trim(), i - start <= 60, true);
                start = 0;
            }
        }
    }
}
