/** The sentences of the promises 1 to 10: a new object and the calls that change the school, a test for each. */
final class ChangeSentences extends Sentences {
    private static final String NO_MESSAGE = "Throws `IndexOutOfBoundsException` if there is no such message";
    private static final String MESSAGE = "- `message`: 0 to 19";
    private static final String ROOM = "- `room`: 0 to 5";

    static void run() {
        newObject();
        teaching();
        whatTeachAnswers();
        whatTeachRefuses();
        forgetting();
        changingTheKey();
        telling();
        lookouts();
        banning();
        bells();
        setting();
        whistling();
        whatWhistleAnswers();
        whatWhistleRefuses();
    }

    private static void newObject() {
        String part = "Promise 1: A new object";
        sentence(part, "Creates a school without tunes");
        for (int message = 0; message < 20; message++) {
            due("message(" + message + ", 0)", 0);
        }
        due("count(2)", 0);
        due("count(3)", 0);
        due("count(4)", 0);
        due("whistle(0, 0)", STATE);
        sentence(part, "lookouts (all asleep)");
        due("count(5)", 0);
        teach(0, "cd");
        due("ifWhistled(0, 0, 0)", 14);
        due("lookout(1, false)", 0);
        sentence(part, "and a snapshot");
        refused("restore()", STATE);
        sentence(part, "in the night 0");
        due("count(0)", 0);
        due("bell()", 1);
        WhistleTunes other = new WhistleTunes();
        due("count(0)", 1 + other.count(0));
        sentence(part, "with an empty buffer.");
        due("firstError()", 0);
        due("tuneError()", 0);
        due("clearBuffer()", 0);
        due("append(33)", 1);
    }

    // ---- teach, forget

    private static void teaching() {
        String part = "Promise 2: teach";
        sentence(part, "Teaches a message the tune that the buffer is as a text (a tune alone)");
        type("0=cd");
        refused("teach(0)", ARGUMENT);
        type("cd,!");
        due("firstError()", 0);
        refused("teach(0)", ARGUMENT);
        type("gd(h)2");
        due("teach(0)", 4);
        tune(0, 4, 1, 6, 6);
        for (int message = 1; message < 20; message++) {
            tune(message);
        }
        type("cdefgahc");
        due("teach(19)", 8);
        tune(19, 0, 1, 2, 3, 4, 5, 6, 0);
        tune(0, 4, 1, 6, 6);

        sentence(part, "in place of the one that it had");
        teach(1, "cdefg");
        teach(1, "hg");
        tune(1, 6, 4);
        due("count(2)", 1);
        due("count(3)", 2);
        type("cdefg");
        due("decode(0, 0)", -1);
        due("decode(0, 1)", -1);
        due("teach(2)", 5);
        type("cdefgahc");
        due("teach(1)", 8);
        tune(1, 0, 1, 2, 3, 4, 5, 6, 0);
        tune(2, 0, 1, 2, 3, 4);

        sentence(part, "and clears the buffer.");
        type("cd");
        answer("teach(1)");
        due("clearBuffer()", 0);
        type("c".repeat(8));
        answer("teach(1)");
        due("append(33)", 1);

        sentence(part, "Undoable.");
        type("cd");
        undoable("teach(1)", 2);
        type("cd");
        undoable("teach(1)", 2);
        type("gha");
        undoable("teach(1)", 3);
        type("gha");
        answer("teach(1)");
        answer("undo()");
        due("clearBuffer()", 0);
    }

    private static void whatTeachAnswers() {
        String part = "Promise 2: teach";
        sentence(part, MESSAGE);
        type("cd");
        range("teach(#)", 0, 19, INDEX);

        sentence(part, "Returns how many notes the tune has.");
        String[] texts = {"cd", "(c)3", "((c)2)2", "(cd)2e", "(cd)3", "(cd)3e", "((cd)2)2"};
        for (int index = 0; index < texts.length; index++) {
            type(texts[index]);
            due("teach(5)", index + 2);
        }
    }

    private static void whatTeachRefuses() {
        String part = "Promise 2: teach";
        sentence(part, NO_MESSAGE);
        type("cd");
        refused("teach(-1)", INDEX);
        refused("teach(20)", INDEX);
        due("teach(19)", 2);
        type("cd");
        due("undo()", 0);
        due("teach(0)", 2);

        sentence(part, "Throws `IllegalArgumentException` if the buffer is not a tune as a text, complete and without a syntax error"
            + " (the buffer stays)");
        String[] texts = {"", "(", "(cd", "(cd)", "cd(", "(cd)2)", "b", "cdb", "(cd)1", "(cd)4", "()2", "cd2", "((((c)2)2)2)2", "cd,",
            "0=cd", "!", "(c", "c)"};
        for (String text : texts) {
            another();
            type(text);
            refused("teach(3)", ARGUMENT);
            due("clearBuffer()", text.length());
        }
        another();
        type("(cd)");
        refused("teach(3)", ARGUMENT);
        typeMore("2");
        due("teach(3)", 4);

        sentence(part, "Throws `IllegalStateException` if it cannot be taught (the buffer stays)");
        teach(3, "de");
        for (String text : new String[] {"c", "ccccccccc", "cd", "hc", "((c)3)3"}) {
            type(text);
            refused("teach(4)", STATE);
            due("clearBuffer()", text.length());
        }
        type("d");
        refused("teach(4)", STATE);
        typeMore("f");
        due("teach(4)", 2);
        tune(4, 1, 3);
    }

    private static void forgetting() {
        String part = "Promise 3: forget";
        sentence(part, "Lets a message have no tune any more.");
        teach(5, "cde");
        teach(6, "cdeg");
        answer("whistle(0, 5)");
        due("forget(5)", 3);
        tune(5);
        tune(6, 0, 1, 2, 4);
        due("whyNot(0, 5)", 2);
        due("count(2)", 1);
        due("message(5, 2)", 1);
        type("cde");
        due("decode(0, 0)", -1);
        due("decode(0, 1)", -1);
        due("teach(7)", 3);

        sentence(part, "Undoable.");
        teach(5, "cde");
        undoable("forget(5)", 3);
        undoable("forget(5)", 0);

        sentence(part, MESSAGE);
        range("forget(#)", 0, 19, INDEX);

        sentence(part, "Returns how many notes its tune had, 0 without one.");
        due("forget(0)", 0);
        String[] texts = {"cd", "cde", "cdef", "cdefg", "cdefga", "cdefgah", "cdefgahc"};
        for (String text : texts) {
            teach(19, text);
            due("forget(19)", text.length());
            due("forget(19)", 0);
        }

        sentence(part, NO_MESSAGE);
        teach(0, "cd");
        teach(19, "ce");
        refused("forget(-1)", INDEX);
        refused("forget(20)", INDEX);
        due("forget(0)", 2);
        due("forget(19)", 2);
    }

    // ---- key, tell

    private static void changingTheKey() {
        String part = "Promise 4: key";
        sentence(part, "Changes the key of now.");
        for (int key = 6; key >= 0; key--) {
            answer("key(" + key + ")");
            due("count(1)", key);
            due("room(3, 0)", 0);
        }
        sentence(part, "Undoable.");
        undoable("key(6)", 0);
        undoable("key(6)", 6);
        undoable("key(0)", 6);
        sentence(part, "- `key`: 0 to 6");
        range("key(#)", 0, 6, ARGUMENT);
        sentence(part, "Returns the previous one.");
        int[] keys = {0, 3, 6, 6, 1, 0, 5};
        int before = 0;
        for (int key : keys) {
            due("key(" + key + ")", before);
            before = key;
        }
        sentence(part, "Throws `IllegalArgumentException` if key is out of range");
        answer("key(4)");
        refused("key(-1)", ARGUMENT);
        refused("key(7)", ARGUMENT);
        due("key(6)", 4);
        due("key(0)", 6);
    }

    private static void telling() {
        String part = "Promise 5: tell";
        sentence(part, "Tells a room the key of now.");
        for (int room = 0; room < 6; room++) {
            answer("key(" + (room + 1) + ")");
            answer("tell(" + room + ")");
            for (int other = 0; other < 6; other++) {
                due("room(" + other + ", 0)", other <= room ? other + 1 : 0);
            }
            due("count(1)", room + 1);
        }
        sentence(part, "Undoable.");
        undoable("tell(2)", 0);
        answer("key(5)");
        undoable("tell(2)", 0);
        undoable("tell(2)", 5);
        sentence(part, ROOM);
        range("tell(#)", 0, 5, INDEX);
        sentence(part, "Returns the key that it had.");
        answer("key(3)");
        due("tell(5)", 0);
        due("tell(5)", 3);
        answer("key(6)");
        due("tell(5)", 3);
        due("tell(0)", 0);
        answer("key(0)");
        due("tell(0)", 6);
        due("tell(0)", 0);
        sentence(part, "Throws `IndexOutOfBoundsException` if there is no such room");
        answer("key(3)");
        refused("tell(-1)", INDEX);
        refused("tell(6)", INDEX);
        due("tell(0)", 0);
        due("tell(5)", 0);
        due("count(10)", 33);
    }

    // ---- lookout, ban

    private static void lookouts() {
        String part = "Promise 6: lookout";
        sentence(part, "Wakes the lookout of a floor, or lets it sleep.");
        int[] floors = {0, 2, 1, 1, 0, 0, 2, 1};
        int[] awake = {1, 5, 7, 7, 6, 6, 2, 0};
        for (int index = 0; index < floors.length; index++) {
            answer("lookout(" + floors[index] + ", " + (index < 4) + ")");
            due("count(5)", awake[index]);
        }
        sentence(part, "Undoable.");
        undoable("lookout(1, false)", 0);
        undoable("lookout(1, true)", 1);
        undoable("lookout(1, true)", 1);
        undoable("lookout(1, false)", 0);
        sentence(part, "- `floor`: 0 to 2");
        range("lookout(#, true)", 0, 2, INDEX);
        range("lookout(#, false)", 0, 2, INDEX);
        sentence(part, "- `isAwake`: whether it is awake then");
        for (int floor = 0; floor < 3; floor++) {
            answer("lookout(" + floor + ", true)");
            due("count(5)", 1 << floor);
            answer("lookout(" + floor + ", true)");
            due("count(5)", 1 << floor);
            answer("lookout(" + floor + ", false)");
            due("count(5)", 0);
            answer("lookout(" + floor + ", false)");
            due("count(5)", 0);
        }
        sentence(part, "Returns how many lookouts are awake then.");
        due("lookout(2, false)", 0);
        due("lookout(2, true)", 1);
        due("lookout(2, true)", 1);
        due("lookout(0, true)", 2);
        due("lookout(1, false)", 2);
        due("lookout(1, true)", 3);
        due("lookout(0, false)", 2);
        due("lookout(2, false)", 1);
        due("lookout(1, false)", 0);
        sentence(part, "Throws `IndexOutOfBoundsException` if there is no such floor");
        refused("lookout(-1, true)", INDEX);
        refused("lookout(3, true)", INDEX);
        answer("lookout(0, true)");
        answer("lookout(2, true)");
        refused("lookout(-1, false)", INDEX);
        refused("lookout(3, false)", INDEX);
        due("lookout(1, false)", 2);
    }

    private static void banning() {
        String part = "Promise 7: ban";
        sentence(part, "Lets a master forbid a message, or allow it, if it is forbidden.");
        int[] masters = {0, 1, 2, 1, 0, 0, 2, 0};
        int[] forbidden = {1, 3, 7, 5, 4, 5, 1, 0};
        for (int index = 0; index < masters.length; index++) {
            answer("ban(" + masters[index] + ", 8)");
            due("message(8, 1)", forbidden[index]);
            due("message(7, 1)", 0);
            due("message(9, 1)", 0);
        }
        sentence(part, "Undoable.");
        undoable("ban(1, 8)", 1);
        undoable("ban(1, 8)", 0);
        undoable("ban(2, 19)", 1);
        sentence(part, "- `master`: 0 to 2");
        range("ban(#, 0)", 0, 2, INDEX);
        range("ban(#, 19)", 0, 2, INDEX);
        sentence(part, MESSAGE);
        range("ban(0, #)", 0, 19, INDEX);
        range("ban(2, #)", 0, 19, INDEX);
        sentence(part, "Returns 1 if it is forbidden then, otherwise 0.");
        for (int master = 0; master < 3; master++) {
            due("ban(" + master + ", 3)", 1);
            due("ban(" + master + ", 4)", 1);
            due("ban(" + master + ", 3)", 0);
            due("ban(" + master + ", 3)", 1);
        }
        sentence(part, "Throws `IndexOutOfBoundsException` if there is no such master or message");
        answer("ban(2, 19)");
        String[] calls = {"ban(-1, 0)", "ban(3, 19)", "ban(0, -1)", "ban(2, 20)", "ban(3, 20)", "ban(-1, -1)"};
        for (String call : calls) {
            refused(call, INDEX);
        }
        due("ban(0, 0)", 1);
        due("ban(2, 19)", 0);
    }

    // ---- bell, set

    private static void bells() {
        String part = "Promise 8: bell";
        sentence(part, "The bell rings.");
        teach(12, "cd");
        answer("ban(0, 12)");
        answer("whistle(0, 12)");
        due("count(6)", 3);
        answer("bell()");
        due("count(0)", 1);
        due("count(6)", 0);
        due("count(9)", 1);
        times(5, "bell()");
        due("count(9)", 1);
        answer("bell()");
        due("count(9)", 0);

        sentence(part, "Undoable.");
        teach(12, "cd");
        answer("ban(0, 12)");
        answer("whistle(0, 12)");
        undoable("bell()", 1);
        type("!,!,!,!,!");
        answer("play()");
        due("room(0, 1)", 1);
        undoable("bell()", 7);
        due("room(0, 1)", 0);

        sentence(part, "Returns the night then.");
        for (int night = 1; night <= 30; night++) {
            due("bell()", night);
        }
        answer("undo()");
        due("bell()", 30);
    }

    private static void setting() {
        String part = "Promise 9: set";
        sentence(part, "Changes a setting.");
        int[] reaches = {0, 2, 1, 2, 0};
        for (int reach : reaches) {
            answer("set(0, " + reach + ")");
            due("count(11)", reach);
            due("count(12)", 3);
        }
        for (int limit = 9; limit >= 1; limit--) {
            answer("set(1, " + limit + ")");
            due("count(12)", limit);
            due("count(11)", 0);
        }
        sentence(part, "Undoable.");
        undoable("set(0, 2)", 1);
        undoable("set(0, 2)", 2);
        undoable("set(1, 9)", 3);
        undoable("set(1, 9)", 9);
        sentence(part, "- `setting`: 0 or 1");
        range("set(#, 1)", 0, 1, INDEX);
        sentence(part, "- `value`: the new value");
        range("set(0, #)", 0, 2, ARGUMENT);
        range("set(1, #)", 1, 9, ARGUMENT);
        sentence(part, "Returns the previous value.");
        due("set(0, 0)", 1);
        due("set(0, 2)", 0);
        due("set(1, 1)", 3);
        due("set(1, 9)", 1);
        due("set(1, 9)", 9);
        due("set(0, 2)", 2);
        sentence(part, "Throws `IndexOutOfBoundsException` if there is no such setting");
        refused("set(-1, 1)", INDEX);
        refused("set(2, 1)", INDEX);
        refused("set(2, 100)", INDEX);
        refused("set(-1, -100)", INDEX);
        sentence(part, "Throws `IllegalArgumentException` if value is out of range");
        refused("set(0, -1)", ARGUMENT);
        refused("set(0, 3)", ARGUMENT);
        refused("set(1, 0)", ARGUMENT);
        refused("set(1, 10)", ARGUMENT);
        due("set(0, 0)", 1);
        due("set(0, 2)", 0);
        due("set(1, 1)", 3);
        due("set(1, 9)", 1);
    }

    // ---- whistle

    private static void whistling() {
        String part = "Promise 10: whistle";
        sentence(part, "A room whistles a message.");
        teach(3, "cd");
        teach(13, "ce");
        answer("ban(1, 13)");
        due("whistle(4, 13)", 3);
        dueEach("latest(", 4, 13, 6, 44, 2, 44);
        dueEach("message(13, ", 2, 2, 1, 3);
        dueEach("message(3, ", 2, 0, 0, 0);
        dueEach("room(4, ", 0, 1, 0, 0, 0, 0);
        dueEach("room(5, ", 0, 0, 1, 0, 1, 0);
        dueEach("room(1, ", 0, 0, 0, 0, 0, 0);
        answer("key(1)");
        answer("tell(4)");
        due("whistle(4, 3)", 0);
        dueEach("latest(", 4, 3, 6, 0, 0, 0);
        dueEach("message(3, ", 2, 0, 1, 0);
        dueEach("room(5, ", 0, 0, 1, 0, 1, 1);
        due("count(8)", 2);
        due("count(0)", 0);

        sentence(part, "Undoable.");
        teach(13, "ce");
        answer("ban(1, 13)");
        undoable("whistle(4, 13)", 3);
        undoable("whistle(4, 13)", 3);
        answer("undo()");
        answer("key(1)");
        answer("tell(1)");
        undoable("whistle(1, 13)", 0);

        sentence(part, ROOM);
        teach(0, "cd");
        range("whistle(#, 0)", 0, 5, INDEX);

        sentence(part, MESSAGE);
        for (int message = 0; message < 20; message++) {
            teach(message, "c" + "cdefgah".charAt(message % 7) + "cdefgah".charAt(message / 7));
        }
        range("whistle(0, #)", 0, 19, INDEX);
    }

    private static void whatWhistleAnswers() {
        sentence("Promise 10: whistle", "Returns how many rooms understand it.");
        teach(0, "cd");
        answer("set(0, 2)");
        answer("key(6)");
        for (int room = 1; room <= 5; room++) {
            due("whistle(0, 0)", 6 - room);
            answer("tell(" + room + ")");
        }
        due("whistle(0, 0)", 0);
        due("whistle(5, 0)", 4);
    }

    private static void whatWhistleRefuses() {
        String part = "Promise 10: whistle";
        sentence(part, "Throws `IndexOutOfBoundsException` if there is no such room or message");
        teach(0, "cd");
        teach(19, "ce");
        String[] calls = {"whistle(-1, 0)", "whistle(6, 19)", "whistle(0, -1)", "whistle(5, 20)", "whistle(6, 20)", "whistle(6, 1)"};
        for (String call : calls) {
            refused(call, INDEX);
        }
        due("whistle(0, 19)", 3);
        due("whistle(5, 0)", 3);

        sentence(part, "Throws `IllegalStateException` if it cannot be whistled");
        teach(0, "cd");
        answer("ban(0, 0)");
        answer("set(1, 1)");
        refused("whistle(0, 1)", STATE);
        due("whistle(0, 0)", 3);
        refused("whistle(0, 0)", STATE);
        refused("whistle(0, 1)", STATE);
        due("whistle(1, 0)", 3);
        answer("set(1, 2)");
        due("whistle(0, 0)", 3);
        answer("forget(0)");
        refused("whistle(2, 0)", STATE);
    }
}
