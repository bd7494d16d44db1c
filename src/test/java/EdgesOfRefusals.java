import java.util.ArrayList;
import java.util.List;
import java.util.Set;

/**
 * Each call that can be refused, refused for each of its reasons: it changes nothing but what the document says it
 * changes. What there is to ask is asked of an object that was refused and of one that wasn't, in parts, as each
 * object has 512 calls. Likewise each call that only asks changes nothing at all.
 */
final class EdgesOfRefusals {
    private static final int REASONS = 3;
    private static final int NOT_REFUSED = 9;
    private static final List<Call> QUESTIONS = questions();
    /** What is asked last, as it changes something itself: what the IMAGES hold and what is on the tape. */
    private static final List<List<Call>> CLOSINGS = closings();

    private final String name;
    private final List<Call> told;
    private final List<List<Long>> due;

    private EdgesOfRefusals(String name, List<Call> told) {
        this.name = name;
        this.told = told;
        due = answers(List.of());
    }

    static void tryAll() {
        EdgesOfRefusals fresh = new EdgesOfRefusals("a new object", List.of());
        EdgesOfRefusals some = new EdgesOfRefusals("some told", EdgesOfArguments.told());
        EdgesOfRefusals full = new EdgesOfRefusals("all full", full());
        for (EdgesOfRefusals each : new EdgesOfRefusals[] {fresh, some, full}) {
            each.notAsTold();
            each.wrongQuestions();
        }
        fresh.notAsToldOfNew();
        some.notAsToldOfSome();
        full.noRoom();
        full.notAsToldOfFull();
        some.faults();
        some.questionsChangeNothing();
    }

    // ---- what is told ahead of it ----

    private static List<Call> full() {
        List<Call> all = new ArrayList<>(Call.law("sea 50 20;live 3 if x<9;fish 2;catch 3;carry fished 20;"));
        all.addAll(Call.law("sea 100;"));
        for (int i = 0; i < 80; i++) {
            all.add(Call.of("dry", i % 16, i % 3 == 0));
        }
        for (int i = 0; i < 60; i++) {
            all.add(Call.of("find", 4 * i, i % 3, i, i + 30));
        }
        for (int i = 0; i < 40; i++) {
            all.add(Call.of("mud", 5 * i, i % 4 == 0));
            all.add(Call.of("letter", i % 2 == 0, i % 2 == 0 ? 60 + i : i / 2, i, i + 20));
        }
        for (int i = 0; i < 10; i++) {
            all.add(Call.of("place", 20 * i + 3));
        }
        for (int i = 0; i < 3; i++) {
            all.add(Call.of("bucket", 9, 2));
            all.add(Call.of("image"));
        }
        all.add(Call.of("bucket", 9, 1));
        all.add(Call.of("bucket", 10, 8));
        for (int i = 0; i < 35; i++) {
            all.addAll(Call.feeds("catch " + i % 10 + ";          \n "));
        }
        return all;
    }

    // ---- what is asked behind it ----

    private static List<Call> questions() {
        List<Call> all = new ArrayList<>();
        for (int c = 0; c < 256; c++) {
            for (int what : new int[] {0, 1, 8, 9, 10}) {
                all.add(Call.of("cell", c, what));
            }
        }
        for (int age = 0; age < 100; age++) {
            for (int what = 0; what <= 1; what++) {
                all.add(Call.of("sea", age, what));
                all.add(Call.of("levels", age, what));
            }
        }
        for (int find = 0; find <= 60; find++) {
            for (int what = 0; what <= 3; what++) {
                all.add(Call.of("found", find, what));
            }
            all.add(Call.of("carried", find, 1));
        }
        for (int kind = 0; kind < 16; kind++) {
            all.add(Call.of("learnt", kind, 0));
            all.add(Call.of("learnt", kind, 1));
        }
        for (int what : new int[] {0, 1, 2, 3, 4, 5, 6, 7, 11, 12, 13, 14, 15}) {
            all.add(Call.of("count", what));
        }
        all.add(Call.of("fault"));
        all.add(Call.of("fits", -1));
        all.add(Call.of("fits", 0));
        all.add(Call.of("tried", 0));
        all.add(Call.of("tried", 1));
        for (int age : new int[] {0, 50, 99}) {
            ofAge(all, age);
        }
        return all;
    }

    private static void ofAge(List<Call> all, int age) {
        for (int c : new int[] {0, 5, 9, 100, 101, 255}) {
            for (int what = 0; what <= 8; what++) {
                all.add(Call.of("asked", c, age, what));
            }
            for (int what = 2; what <= 7; what++) {
                all.add(Call.of("cell", c, what));
            }
            all.add(Call.of("left", c, age, 0));
            all.add(Call.of("left", c, age, 1));
            all.add(Call.of("say", c, age));
            all.add(Call.of("gone", c, age, 40, 2));
            all.add(Call.of("ends", c, 0));
            all.add(Call.of("ends", c, 1));
            all.add(Call.of("world", c, age, 20, c, 9));
            all.add(Call.of("ahead", age, c));
            all.add(Call.of("lived", c, age / 2, age, 0));
            all.add(Call.of("lived", c, age / 2, age, 1));
            all.add(Call.of("alone", c, 256, 0));
        }
        for (int n = 1; n <= 6; n++) {
            for (int what : new int[] {0, 10, 11, 12, 13, 14, 15, 16, 17, 18, 19}) {
                all.add(Call.of("ship", n, age, what));
            }
        }
        for (int q = 0; q < 4; q++) {
            all.add(Call.of("lean", q, age));
            all.add(Call.of("right", q, age, 0));
            all.add(Call.of("right", q, age, 1));
            all.add(Call.of("held", age, 1 + 60 * q, 0));
        }
        for (int what = 0; what <= 2; what++) {
            all.add(Call.of("rest", age, 45, 1, what));
            all.add(Call.of("height", age, 1, what));
        }
        all.add(Call.of("shore", age));
        all.add(Call.of("ford", age, 2, -1));
        all.add(Call.of("unlike", age));
        all.add(Call.of("doubt", age));
    }

    private static List<List<Call>> closings() {
        List<List<Call>> all = new ArrayList<>();
        for (int n : new int[] {0, 8, 20, 40, 60, 680, 700}) {
            all.add(List.of(Call.of("law", n), Call.of("fault"), Call.of("count", 0), Call.of("count", 11), Call.of("count", 6)));
        }
        for (int image = 0; image < 3; image++) {
            List<Call> each = new ArrayList<>(List.of(Call.of("restore", image)));
            for (int c : new int[] {5, 9, 10, 77, 100, 101}) {
                for (int what : new int[] {0, 1, 8, 9, 10}) {
                    each.add(Call.of("cell", c, what));
                }
            }
            for (int what : new int[] {0, 1, 2, 3, 4, 5, 6, 7, 11, 12, 13, 14, 15}) {
                each.add(Call.of("count", what));
            }
            each.add(Call.of("found", 0, 2));
            each.add(Call.of("found", 59, 3));
            each.add(Call.of("levels", 20, 0));
            each.add(Call.of("levels", 20, 1));
            all.add(each);
        }
        return all;
    }

    // ---- asking it all, in parts ----

    private Land start(List<Call> then) {
        Land land = new Land();
        for (Call each : told) {
            each.on(land);
        }
        for (Call each : then) {
            each.on(land);
        }
        return land;
    }

    /** The answers to all questions, and to each closing, when these calls have been made behind what was told. */
    private List<List<Long>> answers(List<Call> then) {
        List<List<Long>> all = new ArrayList<>();
        List<Long> open = new ArrayList<>();
        Land land = start(then);
        for (Call each : QUESTIONS) {
            if (land.callsLeft() == 0) {
                land = start(then);
            }
            open.add(each.on(land));
        }
        all.add(open);
        for (List<Call> closing : CLOSINGS) {
            Land last = start(then);
            List<Long> answered = new ArrayList<>();
            for (Call each : closing) {
                answered.add(each.on(last));
            }
            all.add(answered);
        }
        return all;
    }

    /** How many answers aren't those of an object of which these calls weren't made, but for those told. */
    private int changed(List<Call> then, Set<String> but) {
        List<List<Long>> now = answers(then);
        int changed = 0;
        for (int i = 0; i < now.size(); i++) {
            List<Call> asked = i == 0 ? QUESTIONS : CLOSINGS.get(i - 1);
            for (int k = 0; k < asked.size(); k++) {
                String question = (i == 0 ? "" : "closing ") + asked.get(k);
                boolean may = but.contains(question) || i > 0 && but.contains("closing " + CLOSINGS.get(i - 1).get(0));
                if (!may && !now.get(i).get(k).equals(due.get(i).get(k))) {
                    changed++;
                    System.out.println("  " + question + " answers " + now.get(i).get(k) + ", it answered " + due.get(i).get(k));
                }
            }
        }
        return changed;
    }

    /** A call that is refused for this reason, or isn't REFUSED: what it answers, and that it changes nothing else. */
    private void refused(Call call, int reason, long answer) {
        Land land = start(List.of());
        long[] before = new long[REASONS];
        for (int r = 0; r < REASONS; r++) {
            before[r] = land.count(8 + r);
        }
        String told = call + " with " + name;
        Edge.due(told, call.on(land), answer);
        for (int r = 0; r < REASONS; r++) {
            Edge.due(told + ", REFUSED by reason " + r, land.count(8 + r), before[r] + (r == reason ? 1 : 0));
        }
        Edge.due(told + ", answers that it changed", changed(List.of(call), Set.of()), 0);
    }

    private void refused(int reason, long answer, Call... calls) {
        for (Call each : calls) {
            refused(each, reason, answer);
        }
    }

    // ---- the calls ----

    private void notAsTold() {
        Edge.promise(2, "false, doing nothing but REFUSED: not as told (high not below low).");
        refused(0, 0, Call.of("sound", -1, 0, 0), Call.of("sound", 256, 0, 0), Call.of("sound", 5, -1, 50), Call.of("sound", 5, 50, 100),
                Call.of("sound", 5, 50, 49), Call.of("sound", 101, 100, 100));
        Edge.promise(4, "-2, doing nothing but REFUSED: n is below 0 or more than there are.");
        refused(0, -2, Call.of("law", -1), Call.of("law", 701), Call.of("law", Integer.MIN_VALUE), Call.of("law", Integer.MAX_VALUE));
        Edge.promise(12, "NONE, doing nothing but REFUSED: no such KIND, 80 are there.");
        refused(0, -1, Call.of("dry", -1, true), Call.of("dry", 16, false));
        Edge.promise(15, "NONE, doing nothing but REFUSED: no such CELL, n not 1 to 8, there would be more than 8 (no room).");
        refused(0, -1, Call.of("bucket", -1, 1), Call.of("bucket", 256, 1), Call.of("bucket", 5, 0), Call.of("bucket", 5, 9),
                Call.of("bucket", 9, -1), Call.of("bucket", 256, 9));
        Edge.promise(17, "NONE, doing nothing but REFUSED: not as told, 60 are there.");
        refused(0, -1, Call.of("find", -1, 0, 5, 6), Call.of("find", 256, 0, 5, 6), Call.of("find", 5, -1, 5, 6), Call.of("find", 5, 3, 5, 6),
                Call.of("find", 5, 0, -1, 6), Call.of("find", 5, 0, 5, 100), Call.of("find", 5, 0, 6, 5));
        Edge.promise(22, "NONE, doing nothing but REFUSED: no such CELL, 40 others have (no room).");
        refused(0, -1, Call.of("mud", -1, true), Call.of("mud", 256, false));
        Edge.promise(24, "NONE, doing nothing but REFUSED: no such CELL, it is one, 10 are there (no room only if it is no PLACE yet).");
        refused(0, -1, Call.of("place", -1), Call.of("place", 256));
        Edge.promise(34, "NONE, doing nothing but REFUSED: not as told, 40 are.");
        refused(0, -1, Call.of("letter", true, -1, 5, 6), Call.of("letter", false, 100, 5, 6), Call.of("letter", true, 5, -1, 6),
                Call.of("letter", false, 5, 5, 100), Call.of("letter", true, 5, 6, 5));
        Edge.promise(40, "false, doing nothing but REFUSED: none such.");
        refused(0, 0, Call.of("restore", -1), Call.of("restore", 3));
    }

    private void notAsToldOfNew() {
        Edge.promise(4, "-2, doing nothing but REFUSED: n is below 0 or more than there are.");
        refused(0, -2, Call.of("law", 1));
        Edge.promise(40, "false, doing nothing but REFUSED: none such.");
        refused(0, 0, Call.of("restore", 0));
    }

    private void notAsToldOfSome() {
        Edge.promise(4, "-2, doing nothing but REFUSED: n is below 0 or more than there are.");
        refused(0, -2, Call.of("law", 41));
        Edge.promise(15, "NONE, doing nothing but REFUSED: no such CELL, n not 1 to 8, there would be more than 8 (no room).");
        refused(1, -1, Call.of("bucket", 100, 6), Call.of("bucket", 9, 8));
        Edge.promise(24, "NONE, doing nothing but REFUSED: no such CELL, it is one, 10 are there (no room only if it is no PLACE yet).");
        refused(0, -1, Call.of("place", 100), Call.of("place", 9));
        Edge.promise(40, "false, doing nothing but REFUSED: none such.");
        refused(0, 0, Call.of("restore", 2));
    }

    private void noRoom() {
        Edge.promise(3, "NONE, doing nothing (not REFUSED): there would be more than 700.");
        refused(NOT_REFUSED, -1, Call.of("feed", 0, 0, 0, 0, 0), Call.of("feed", 0x63617463, 0x6820373b, -1, -1, -1));
        Edge.promise(12, "NONE, doing nothing but REFUSED: no such KIND, 80 are there.");
        refused(1, -1, Call.of("dry", 0, true), Call.of("dry", 15, false));
        Edge.promise(15, "NONE, doing nothing but REFUSED: no such CELL, n not 1 to 8, there would be more than 8 (no room).");
        refused(1, -1, Call.of("bucket", 9, 2), Call.of("bucket", 10, 1), Call.of("bucket", 10, 8));
        Edge.promise(17, "NONE, doing nothing but REFUSED: not as told, 60 are there.");
        refused(1, -1, Call.of("find", 0, 0, 0, 0), Call.of("find", 255, 2, 99, 99));
        Edge.promise(22, "NONE, doing nothing but REFUSED: no such CELL, 40 others have (no room).");
        refused(1, -1, Call.of("mud", 1, true), Call.of("mud", 255, false));
        Edge.promise(24, "NONE, doing nothing but REFUSED: no such CELL, it is one, 10 are there (no room only if it is no PLACE yet).");
        refused(1, -1, Call.of("place", 0), Call.of("place", 255));
        Edge.promise(34, "NONE, doing nothing but REFUSED: not as told, 40 are.");
        refused(1, -1, Call.of("letter", true, 0, 0, 99), Call.of("letter", false, 99, 0, 0));
        Edge.promise(39, "An IMAGE: its number. NONE, doing nothing but REFUSED: 3 are there.");
        refused(1, -1, Call.of("image"));
    }

    private void notAsToldOfFull() {
        Edge.promise(24, "NONE, doing nothing but REFUSED: no such CELL, it is one, 10 are there (no room only if it is no PLACE yet).");
        refused(0, -1, Call.of("place", 3), Call.of("place", 183));
        Edge.promise(15, "NONE, doing nothing but REFUSED: no such CELL, n not 1 to 8, there would be more than 8 (no room).");
        refused(0, -1, Call.of("bucket", 10, 9), Call.of("bucket", 10, 0));
    }

    /** A FAULT empties the tape and is told by fault(), and does no more than that. */
    private void faults() {
        Edge.promise(4, "NONE: a FAULT (the one there was stays)");
        Set<String> may = Set.of("count(6)", "fault()", "closing count(6)", "closing law(0)", "closing law(8)", "closing law(20)",
                "closing law(40)", "closing law(60)", "closing law(680)", "closing law(700)");
        for (int n : new int[] {1, 7, 39, 40}) {
            Call call = Call.of("law", n);
            Land land = start(List.of());
            long before = land.count(10);
            Edge.due(call + " with a FAULT", call.on(land), -1);
            Edge.due(call + " with a FAULT, REFUSED", land.count(10), before + 1);
            Edge.due(call + " with a FAULT, REFUSED not as told", land.count(8), 0);
            Edge.due(call + " with a FAULT, REFUSED for room", land.count(9), 0);
            Edge.due(call + " with a FAULT, the tape", land.count(6), 0);
            Edge.due(call + " with a FAULT, fault()", land.fault(), n == 1 ? 0 : n == 7 ? 7 : 38);
            Edge.due(call + " with a FAULT, answers that it changed", changed(List.of(call), may), 0);
        }
    }

    private void wrongQuestions() {
        Edge.terms(3, "REFUSED: calls that tell something and don't do it, by reason: 0 not as told, 1 no more room (if they are as told), 2 a FAULT.");
        Call[] none = {Call.of("sea", 100, 0), Call.of("cell", 256, 0), Call.of("asked", 0, 100, 0), Call.of("shore", -1),
            Call.of("alone", 0, 257, 0), Call.of("lived", 0, 6, 5, 0), Call.of("learnt", 16, 0), Call.of("tried", 2),
            Call.of("left", 0, 100, 0), Call.of("found", 60, 0), Call.of("carried", 60, 0), Call.of("rest", 0, 0, 0, 0),
            Call.of("height", 0, 21, 0), Call.of("ship", 7, 0, 0), Call.of("lean", 4, 0), Call.of("right", 4, 0, 0),
            Call.of("ahead", 0, 256), Call.of("held", 0, 0, 0), Call.of("world", -1, 0, 1, 0, 0), Call.of("ford", 0, 1, -1),
            Call.of("ends", -1, 0), Call.of("levels", 100, 0), Call.of("fits", 1), Call.of("unlike", 100), Call.of("doubt", 100),
            Call.of("count", 16)};
        Land land = start(List.of());
        long before = land.count(8) + land.count(9) + land.count(10);
        for (Call each : none) {
            Edge.due(each + " with " + name, each.on(land), -1);
        }
        Edge.due("gone(0, 0, 100, 0) with " + name, land.gone(0, 0, 100, 0), -2);
        Edge.due("say(256, 0) with " + name, land.say(256, 0), -2);
        Edge.due("REFUSED with " + name, land.count(8) + land.count(9) + land.count(10), before);
        List<Call> all = new ArrayList<>(List.of(none));
        all.add(Call.of("gone", 0, 0, 100, 0));
        all.add(Call.of("say", 256, 0));
        Edge.due("wrong questions with " + name + ", answers that they changed", changed(all, Set.of()), 0);
    }

    private void questionsChangeNothing() {
        Edge.terms(3, "REFUSED: calls that tell something and don't do it, by reason: 0 not as told, 1 no more room (if they are as told), 2 a FAULT.");
        for (int from = 0; from < QUESTIONS.size(); from += 300) {
            List<Call> some = QUESTIONS.subList(from, Math.min(QUESTIONS.size(), from + 300));
            Land land = start(some);
            Edge.due("REFUSED after questions from " + some.get(0), land.count(8) + land.count(9), 0);
            Edge.due("a FAULT after questions from " + some.get(0), land.count(10), 1);
            Edge.due("questions from " + some.get(0) + ", answers that they changed", changed(some, Set.of()), 0);
        }
    }
}
