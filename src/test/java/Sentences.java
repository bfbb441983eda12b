import java.io.IOException;
import java.lang.reflect.InvocationTargetException;
import java.lang.reflect.Method;
import java.nio.file.Files;
import java.nio.file.Path;
import java.util.ArrayList;
import java.util.LinkedHashMap;
import java.util.List;
import java.util.Map;
import java.util.Set;
import java.util.TreeSet;

/**
 * Helps tests that go by the sentences of the document. A test begins with sentence(..), which names a part of the
 * document and the words that it tests; the calls after it are made on a new object. Calls are written as texts, so
 * that the story of an object can be told to another one: with a call and without it, both are then compared.
 */
class Sentences {
    static final String INDEX = "IndexOutOfBoundsException";
    static final String ARGUMENT = "IllegalArgumentException";
    static final String STATE = "IllegalStateException";
    static final int MOST_CALLS = 512;

    private static final Path DOCUMENT = Path.of("../shared/DOC.md");
    private static final Set<String> PARTS_WITHOUT_SIGN = Set.of("Rooms, floors, keys", "Undo, the snapshot");
    private static final List<String> SIX_STATES =
        List.of("key(1)", "key(2)", "key(3)", "key(4)", "key(5)", "key(6)");

    private static final Set<String> broken = new TreeSet<>();
    private static final List<String> story = new ArrayList<>();
    private static String named = "The document";
    private static int tests = 0;
    private static int printed = 0;
    private static Subject subject = new Subject();
    // Last, as reading the document may be a fault already.
    private static final Map<String, String> parts = partsOfDocument();
    private static final Map<String, String> unnamed = new LinkedHashMap<>(parts);

    /** An object under test, which counts its calls: beyond the 512th nothing is promised. */
    private static final class Subject {
        private final WhistleTunes school = new WhistleTunes();
        private int calls = 0;

        String answer(String call) {
            calls++;
            if (calls > MOST_CALLS) {
                fault("the test itself makes too many calls");
            }
            try {
                return String.valueOf(methodOf(call).invoke(school, argumentsOf(call)));
            } catch (InvocationTargetException e) {
                return e.getCause().getClass().getSimpleName();
            } catch (IllegalAccessException e) {
                return "not to be called: " + call;
            }
        }
    }

    private static Method methodOf(String call) {
        String name = call.substring(0, call.indexOf('('));
        for (Method method : WhistleTunes.class.getMethods()) {
            if (method.getName().equals(name)) {
                return method;
            }
        }
        throw new IllegalArgumentException("no such method: " + call);
    }

    private static Object[] argumentsOf(String call) {
        String inside = call.substring(call.indexOf('(') + 1, call.length() - 1);
        if (inside.isEmpty()) {
            return new Object[0];
        }
        String[] words = inside.split(", ");
        Object[] arguments = new Object[words.length];
        for (int index = 0; index < words.length; index++) {
            boolean isTruth = words[index].equals("true") || words[index].equals("false");
            arguments[index] = isTruth ? (Object) Boolean.valueOf(words[index]) : Integer.valueOf(words[index]);
        }
        return arguments;
    }

    // ---- the document

    private static Map<String, String> partsOfDocument() {
        Map<String, String> found = new LinkedHashMap<>();
        if (!Files.isRegularFile(DOCUMENT)) {
            System.out.println("no document at " + DOCUMENT + ": the words of the tests are not compared with it");
            return found;
        }
        try {
            String name = "";
            for (String line : Files.readAllLines(DOCUMENT)) {
                if (line.startsWith("#") || PARTS_WITHOUT_SIGN.contains(line)) {
                    name = line.replaceFirst("^#+ ", "");
                } else {
                    found.merge(name, line + "\n", String::concat);
                }
            }
        } catch (IOException e) {
            fault("the document cannot be read");
        }
        return found;
    }

    /** Begins a test, on a new object. */
    static void begin(String name) {
        tests++;
        named = name;
        another();
    }

    /** Begins the test of a sentence of the document. */
    static void sentence(String part, String words) {
        begin(part + ": " + words);
        if (parts.isEmpty()) {
            return;
        }
        if (!parts.getOrDefault(part, "").contains(words)) {
            fault("the document does not say this there");
        }
        unnamed.computeIfPresent(part, (name, text) -> text.replace(words, ""));
    }

    /** Tells which words of the parts, from the first to the last, are in no test. */
    static void allIsNamed(String first, String last, String wordsWithoutTest) {
        boolean isWithin = false;
        for (Map.Entry<String, String> part : unnamed.entrySet()) {
            isWithin |= part.getKey().equals(first);
            if (isWithin) {
                String signature = "^\\s*`[^`]*`: ";
                String left = part.getValue().replaceFirst(signature, "").replaceAll(wordsWithoutTest, "").trim();
                if (left.matches("(?s).*\\w.*")) {
                    named = part.getKey();
                    fault("no test names this: " + left);
                }
            }
            isWithin &= !part.getKey().equals(last);
        }
    }

    static boolean end() {
        System.out.println(tests + " tests, " + broken.size() + " of them broken");
        for (String words : broken) {
            System.out.println("broken: " + words);
        }
        return broken.isEmpty();
    }

    static void fault(String what) {
        broken.add(named);
        printed++;
        if (printed <= 200) {
            System.out.println(named + "\n    " + what);
        }
    }

    static void compare(String what, Object want, Object got) {
        if (!got.toString().equals(want.toString())) {
            fault(what + " answered " + got + ", due is " + want + told());
        }
    }

    private static String told() {
        int start = Math.max(0, story.size() - 12);
        return story.isEmpty() ? "" : " (after " + story.subList(start, story.size()) + ")";
    }

    // ---- calls

    /** Goes on with a new object. */
    static void another() {
        story.clear();
        subject = new Subject();
    }

    static String answer(String call) {
        String got = subject.answer(call);
        story.add(call);
        return got;
    }

    static void due(String call, Object want) {
        String got = subject.answer(call);
        compare(call, want, got);
        story.add(call);
    }

    /** An answer as a number; anything else, such as an exception's name, is a fault. */
    static double number(String answered) {
        if (!answered.matches("-?[0-9].*")) {
            fault("a number is due, not " + answered + told());
            return 0;
        }
        return Double.parseDouble(answered);
    }

    /** Each answer in turn, for the last argument from 0 on. */
    static void dueEach(String callWithoutLast, int... wants) {
        for (int last = 0; last < wants.length; last++) {
            due(callWithoutLast + last + ")", wants[last]);
        }
    }

    static void type(String text) {
        answer("clearBuffer()");
        typeMore(text);
    }

    static void typeMore(String text) {
        for (char sign : text.toCharArray()) {
            answer("append(" + (int) sign + ")");
        }
    }

    static void teach(int message, String text) {
        type(text);
        String got = answer("teach(" + message + ")");
        if (got.endsWith("Exception")) {
            fault("teach(" + message + ") of " + text + " answered " + got);
        }
    }

    /** Three whistles: of room 3 by the key of now 2, of the rooms 0 and 5 by the old key 0; all are heard everywhere. */
    static void aSchool() {
        teach(0, "cdefga");
        teach(12, "efha");
        teach(13, "aha");
        answer("key(2)");
        answer("tell(3)");
        answer("tell(4)");
        answer("lookout(1, true)");
        answer("ban(1, 12)");
        answer("ban(2, 12)");
        answer("set(1, 2)");
        answer("set(0, 2)");
        due("whistle(3, 12)", 1);
        due("whistle(0, 13)", 3);
        due("whistle(5, 12)", 3);
    }

    static void times(int many, String call) {
        for (int step = 0; step < many; step++) {
            answer(call);
        }
    }

    static void tune(int message, int... notes) {
        due("message(" + message + ", 0)", notes.length);
        for (int place = 0; place < 8; place++) {
            due("note(" + message + ", " + place + ")", place < notes.length ? notes[place] : -1);
        }
    }

    /** The answer of an object with the same story, so that the one under test is left alone. */
    static String answerWithout(String call) {
        return played(List.of()).answer(call);
    }

    // ---- what a call changes

    private static Subject played(List<String> more) {
        Subject other = new Subject();
        for (String call : story) {
            other.answer(call);
        }
        for (String call : more) {
            other.answer(call);
        }
        return other;
    }

    /** All that an object holds: its digest, that of each saved state, and that of the snapshot. */
    private static List<String> allOf(Subject holder) {
        List<String> told = new ArrayList<>();
        told.add(holder.answer("digest()"));
        for (int step = 0; step <= 6; step++) {
            told.add(holder.answer("undo()"));
            told.add(holder.answer("digest()"));
        }
        told.add(holder.answer("restore()"));
        told.add(holder.answer("digest()"));
        return told;
    }

    private static void changesNothing(String call, List<String> before) {
        Subject with = played(before);
        with.answer(call);
        compare("all that is held after " + call + " and " + before, allOf(played(before)), allOf(with));
    }

    // With six saved states a state that is saved wrongly drops the oldest one, which only undo tells.
    private static void changesNothing(String call) {
        changesNothing(call, List.of());
        if (call.equals("undo()")) {
            return;
        }
        List<String> full = new ArrayList<>(SIX_STATES);
        if (!call.equals("restore()")) {
            full.add(0, "keep()");
        }
        changesNothing(call, full);
    }

    /** The call throws the exception and changes nothing: no look, no saved state, no snapshot. */
    static void refused(String call, String exception) {
        String before = answerWithout("digest()");
        due(call, exception);
        due("digest()", before);
        changesNothing(call);
    }

    /** The call answers and changes nothing. */
    static void unchanging(String call, Object want) {
        due(call, want);
        changesNothing(call);
    }

    /** The call saves one state, the one before it: undo then brings back all but the buffer. */
    static void undoable(String call, Object want) {
        Subject changed = played(List.of());
        Subject before = played(List.of());
        int saved = (int) number(before.answer("count(13)"));
        compare(call, want, changed.answer(call));
        compare("count(13) after " + call, saved + 1, changed.answer("count(13)"));
        compare("undo() after " + call, saved, changed.answer("undo()"));
        before.answer("clearBuffer()");
        changed.answer("clearBuffer()");
        compare("all that is held after " + call + " and undo()", allOf(before), allOf(changed));
        due(call, want);
    }

    /** In the call, # stands for a number: from the least to the most it is taken, any other one is refused. */
    static void range(String call, int least, int most, String exception) {
        for (int inside = least; inside <= most; inside++) {
            String got = answerWithout(call.replace("#", Integer.toString(inside)));
            if (got.endsWith("Exception")) {
                fault(call + " with " + inside + " answered " + got + told());
            }
        }
        int[] outside = {least - 1, most + 1, Integer.MIN_VALUE, Integer.MAX_VALUE, least + 32, most + 32, least + 256,
            most - 256, least + 65536, most - 65536};
        for (int value : outside) {
            if (value < least || value > most) {
                refused(call.replace("#", Integer.toString(value)), exception);
            }
        }
    }

    /** After these signs just the allowed ones are no syntax error. */
    static void nextSigns(String finder, String before, String allowed) {
        for (char sign = 33; sign < 127; sign++) {
            another();
            type(before + sign);
            due(finder, before.length() + (allowed.indexOf(sign) >= 0 ? 1 : 0));
        }
    }
}
