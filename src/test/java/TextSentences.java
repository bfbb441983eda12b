/** The sentences of the document's terms on the input text, undo, the snapshot and exceptions, a test for each. */
final class TextSentences extends Sentences {
    private static final String INPUT = "Input text";
    private static final String UNDO = "Undo, the snapshot";
    private static final String NOTES = "cdefgah";
    private static final String DIGITS = "0123456789";
    private static final String PART_STARTS = "0123456789wtk!";

    static void run() {
        buffer();
        parts();
        taught();
        whistled();
        shortParts();
        leadingZeros();
        readFromTheLeft();
        errorsOfAnyLength();
        savingStates();
        whatIsSaved();
        whatIsNotSaved();
        sixStates();
        refusedCalls();
        firstException();
    }

    // ---- the input text

    private static void buffer() {
        sentence(INPUT, "The buffer has at most 60 characters.");
        for (int length = 1; length <= 60; length++) {
            due("append(99)", length);
        }
        refused("append(99)", STATE);
        due("clearBuffer()", 60);
        due("append(99)", 1);
    }

    private static void incomplete(String... texts) {
        for (String text : texts) {
            another();
            type(text);
            due("firstError()", text.length());
            refused("play()", ARGUMENT);
        }
    }

    private static void parts() {
        sentence(INPUT, "An evening as a text is one or more parts with \",\" between them:");
        nextSigns("firstError()", "", PART_STARTS);
        nextSigns("firstError()", "!", ",");
        nextSigns("firstError()", "!,", PART_STARTS);
        nextSigns("firstError()", "t5,", PART_STARTS);
        nextSigns("firstError()", "k6,", PART_STARTS);
        nextSigns("firstError()", "w5:1,", PART_STARTS);
        nextSigns("firstError()", "w5:19,", PART_STARTS);
        nextSigns("firstError()", "19=cd,", PART_STARTS);
        nextSigns("firstError()", "19=(cd)2,", PART_STARTS);
        incomplete("", "!,", "0=cd,");
        another();
        type("!");
        due("play()", 1);
        type("!,!,!");
        due("play()", 3);
    }

    private static void taught() {
        sentence(INPUT, "a message, 0 to 19, \"=\", and a tune as a text (it is taught);");
        for (int message = 0; message <= 19; message++) {
            nextSigns("firstError()", "" + message, message == 1 ? DIGITS + "=" : "=");
            nextSigns("firstError()", message + "=", NOTES + "(");
            another();
            type(message + "=ga");
            due("play()", 1);
            for (int other = 0; other <= 19; other++) {
                due("message(" + other + ", 0)", other == message ? 2 : 0);
            }
        }
        nextSigns("firstError()", "0=h", NOTES + "(,");
        nextSigns("firstError()", "0=(", NOTES + "(");
        nextSigns("firstError()", "0=(h", NOTES + "()");
        nextSigns("firstError()", "0=(h)", "23");
        nextSigns("firstError()", "0=(h)3", NOTES + "(,");
        incomplete("0", "19", "0=", "0=(", "0=(c", "0=(c)", "0=c(", "!,1=");
        another();
        type("7=(gc)2h");
        due("play()", 1);
        tune(7, 4, 0, 4, 0, 6);
    }

    private static void whistled() {
        sentence(INPUT, "\"w\", a room, 0 to 5, \":\", and a message (it is whistled);");
        nextSigns("firstError()", "w", "012345");
        for (int room = 0; room <= 5; room++) {
            nextSigns("firstError()", "w" + room, ":");
            nextSigns("firstError()", "w" + room + ":", DIGITS);
        }
        for (int message = 0; message <= 19; message++) {
            nextSigns("firstError()", "w3:" + message, message == 1 ? DIGITS + "," : ",");
        }
        incomplete("w", "w0", "w0:", "!,w5:");
        for (int room = 0; room <= 5; room++) {
            for (int message = 0; message <= 19; message++) {
                another();
                teach(message, "cd");
                type("w" + room + ":" + message);
                due("play()", 1);
                due("latest(0)", room);
                due("latest(1)", message);
            }
        }
    }

    private static void shortParts() {
        sentence(INPUT, "\"t\" and a room (it is told the key);");
        nextSigns("firstError()", "t", "012345");
        for (int room = 0; room <= 5; room++) {
            nextSigns("firstError()", "t" + room, ",");
            another();
            answer("key(5)");
            type("t" + room);
            due("play()", 1);
            due("count(10)", 1 << room);
        }
        incomplete("t", "!,t");

        sentence(INPUT, "\"k\" and a key, 0 to 6 (the key is changed);");
        nextSigns("firstError()", "k", "0123456");
        for (int key = 0; key <= 6; key++) {
            nextSigns("firstError()", "k" + key, ",");
            another();
            answer("key(3)");
            type("k" + key);
            due("play()", 1);
            due("count(1)", key);
            due("count(10)", key == 0 ? 63 : 0);
        }
        incomplete("k", "!,k");

        sentence(INPUT, "or \"!\" (the bell);");
        nextSigns("firstError()", "!", ",");
        another();
        type("!");
        due("play()", 1);
        due("count(0)", 1);
    }

    private static void leadingZeros() {
        sentence(INPUT, "numbers without a leading zero.");
        String[] good = {"0=c", "10=c", "w0:0", "w0:10", "t0", "k0"};
        for (String text : good) {
            another();
            type(text);
            due("firstError()", text.length());
        }
        String[] wrong = {"00=c", "01=c", "019=c", "w00:0", "w05:0", "w0:00", "w0:01", "w0:019", "t00", "t05", "k00", "k06"};
        int[] places = {1, 1, 1, 2, 2, 4, 4, 4, 2, 2, 2, 2};
        for (int index = 0; index < wrong.length; index++) {
            another();
            type(wrong[index]);
            due("firstError()", places[index]);
            refused("play()", ARGUMENT);
            type("!," + wrong[index]);
            due("firstError()", places[index] + 2);
        }
    }

    private static void readFromTheLeft() {
        sentence(INPUT, "The buffer is read from left to right;");
        String[] texts = {"x!", "!!,,x", "0=cd)1=", "k9,t9,w9:", "w0:20,!!", "0=(c)4)4", "0=ce,b"};
        int[] places = {0, 1, 4, 1, 4, 5, 5};
        for (int index = 0; index < texts.length; index++) {
            another();
            type(texts[index]);
            due("firstError()", places[index]);
        }
        another();
        type(")(x");
        due("tuneError()", 0);
        type("c(d)1(e)1");
        due("tuneError()", 4);
    }

    private static void errorsOfAnyLength() {
        sentence(INPUT, "a character is a syntax error if no evening as a text, of any length, begins with the characters before it"
            + " and this character.");
        String bells = "!,".repeat(29);
        String[] ends = {"0=", "w0", "!,", "19", "1=", "t0", "wx", "k7", "0!", "!!", "x!"};
        int[] places = {60, 60, 60, 60, 60, 60, 59, 59, 59, 59, 58};
        for (int index = 0; index < ends.length; index++) {
            another();
            type(bells + ends[index]);
            due("firstError()", places[index]);
        }
        another();
        type("0=" + "c".repeat(55) + "(((");
        due("firstError()", 60);
        type("c".repeat(57) + "(((");
        due("tuneError()", 60);
        type("c".repeat(56) + "((((");
        due("tuneError()", 59);
    }

    // ---- undo, the snapshot

    /** A school in which nothing is as at first, with some saved states, a stop, a snapshot and a half of a text. */
    private static void aBusySchool() {
        teach(0, "ced");
        teach(12, "gg");
        answer("lookout(2, true)");
        answer("ban(0, 12)");
        answer("set(1, 2)");
        answer("key(2)");
        answer("tell(1)");
        answer("whistle(2, 12)");
        answer("keep()");
        type("!,k1,t1,t0,w1:12,w0:3,!");
        answer("play()");
        answer("forget(0)");
        answer("undo()");
        answer("undo()");
        answer("undo()");
        type("k1,t1,t0,w1:12,w0:3");
        answer("play()");
        type("0=(c");
    }

    private static void savingStates() {
        sentence(UNDO, "Each method that is marked \"undoable\" and does not throw an exception saves the state from before it (also if"
            + " it changes nothing):");
        String[] twice = {"forget(12)", "key(4)", "tell(5)", "lookout(1, true)", "lookout(2, false)", "ban(2, 19)", "bell()",
            "set(0, 2)", "set(1, 9)", "restore()"};
        for (String call : twice) {
            for (int way = 0; way < 2; way++) {
                another();
                if (way == 1) {
                    answer("keep()");
                } else {
                    aBusySchool();
                    answer("undo()");
                }
                undoable(call, answerWithout(call));
                undoable(call, answerWithout(call));
            }
        }
        another();
        type("cd");
        undoable("teach(3)", 2);
        type("cd");
        undoable("teach(3)", 2);
        undoable("whistle(0, 3)", 3);
        undoable("whistle(0, 3)", 3);
        another();
        type("!,w0:0");
        undoable("play()", 1);
        type("w0:0");
        undoable("play()", 0);
        type("w0:0");
        undoable("play()", 0);
    }

    private static void isBack(String call, String look, Object before, Object after) {
        due(look, before);
        answer(call);
        due(look, after);
        answer("undo()");
        due(look, before);
    }

    private static void whatIsSaved() {
        sentence(UNDO, "all, also the latest whistle and the latest stop,");
        teach(0, "ced");
        isBack("bell()", "count(0)", 0, 1);
        isBack("key(3)", "count(1)", 0, 3);
        isBack("forget(0)", "message(0, 0)", 3, 0);
        isBack("forget(0)", "count(3)", 3, 0);
        isBack("lookout(1, true)", "count(5)", 0, 2);
        isBack("ban(2, 7)", "message(7, 1)", 0, 4);
        isBack("set(0, 2)", "count(11)", 1, 2);
        isBack("set(1, 9)", "count(12)", 3, 9);
        type("gh");
        isBack("teach(0)", "note(0, 1)", 2, 6);
        answer("key(1)");
        isBack("tell(2)", "room(2, 0)", 0, 1);
        isBack("tell(2)", "count(10)", 0, 4);
        another();
        teach(12, "cd");
        answer("key(1)");
        answer("tell(3)");
        answer("key(0)");
        answer("ban(1, 12)");
        String[] looks = {"latest(0)", "latest(1)", "latest(2)", "latest(3)", "latest(4)", "latest(5)", "message(12, 2)",
            "message(12, 3)", "count(8)", "room(4, 1)", "room(5, 2)", "room(5, 4)", "room(3, 5)", "understoodShare()"};
        Object[] after = {4, 12, 6, 36, 2, 36, 1, 2, 1, 1, 1, 1, 1, 2.0 / 3.0};
        for (int index = 0; index < looks.length; index++) {
            Object before = index < 6 ? "-1" : index == 13 ? "1.0" : "0";
            isBack("whistle(4, 12)", looks[index], before, after[index]);
        }
        answer("whistle(4, 12)");
        isBack("bell()", "count(6)", 2, 0);
        isBack("whistle(0, 12)", "latest(0)", 4, 0);
        times(6, "bell()");
        isBack("bell()", "room(4, 1)", 1, 0);
        another();
        type("!,w0:0");
        isBack("play()", "stopped(0)", -1, 1);
        type("1=c");
        isBack("play()", "stopped(1)", -1, 3);
        type("w0:0");
        answer("play()");
        type("!");
        isBack("play()", "stopped(1)", 2, -1);
    }

    private static void whatIsNotSaved() {
        sentence(UNDO, "but the buffer, the saved states and the snapshot.");
        type("gh");
        answer("bell()");
        type("cdc");
        answer("undo()");
        due("teach(0)", 3);
        tune(0, 0, 1, 0);
        due("clearBuffer()", 0);
        answer("undo()");
        due("clearBuffer()", 0);
        type("!");
        answer("play()");
        answer("undo()");
        due("clearBuffer()", 0);
        another();
        answer("bell()");
        answer("keep()");
        answer("bell()");
        answer("keep()");
        answer("undo()");
        due("count(0)", 1);
        due("restore()", 2);
        due("undo()", 1);
        due("restore()", 2);
        due("undo()", 1);
        due("undo()", 0);
        due("restore()", 2);
        due("count(13)", 1);
    }

    private static void sixStates() {
        sentence(UNDO, "At most 6 states are saved; the oldest one is dropped first.");
        for (int bells = 0; bells <= 20; bells++) {
            another();
            for (int night = 1; night <= bells; night++) {
                answer("bell()");
                due("count(13)", Math.min(6, night));
            }
            for (int left = Math.min(6, bells) - 1; left >= 0; left--) {
                due("undo()", left);
                due("count(0)", bells - Math.min(6, bells) + left);
            }
            refused("undo()", STATE);
        }
        another();
        times(8, "bell()");
        times(3, "undo()");
        due("count(0)", 5);
        times(2, "key(3)");
        times(5, "bell()");
        due("count(13)", 6);
        int[] nights = {9, 8, 7, 6, 5, 5};
        for (int index = 0; index < nights.length; index++) {
            due("undo()", 5 - index);
            due("count(0)", nights[index]);
        }
        due("count(1)", 3);
        refused("undo()", STATE);
    }

    // ---- exceptions

    private static void refusedCalls() {
        sentence("Exceptions", "A call that throws an exception changes nothing.");
        String[] index = {"teach(20)", "forget(20)", "tell(6)", "lookout(3, true)", "ban(3, 0)", "ban(0, 20)", "set(2, 1)",
            "whistle(6, 12)", "whistle(0, 20)", "message(20, 0)", "note(20, 0)", "room(6, 0)", "whyNot(6, 0)", "whyNot(0, 20)",
            "ifWhistled(6, 12, 0)", "ifWhistled(0, 20, 0)", "bestRoom(20)"};
        String[] argument = {"teach(3)", "key(7)", "set(0, 3)", "set(1, 10)", "append(32)", "append(127)", "play()", "stopped(2)",
            "message(0, 4)", "note(0, 8)", "room(0, 6)", "latest(6)", "count(14)", "decode(0, 0)", "decode(7, 0)", "decode(0, 2)",
            "keyOf()", "ifWhistled(0, 12, 4)"};
        for (String call : index) {
            another();
            aBusySchool();
            refused(call, INDEX);
        }
        for (String call : argument) {
            another();
            aBusySchool();
            refused(call, ARGUMENT);
        }
        another();
        aBusySchool();
        refused("whistle(0, 3)", STATE);
        type("dd");
        refused("teach(3)", STATE);
        type("d");
        refused("teach(3)", STATE);
        typeMore("d".repeat(59));
        refused("append(99)", STATE);
        times(6, "undo()");
        refused("undo()", STATE);
        another();
        teach(0, "cd");
        refused("restore()", STATE);
    }

    private static void firstException() {
        sentence("Exceptions", "If several exceptions apply, the one that is named first in the throws clause is thrown.");
        aBusySchool();
        for (int message : new int[] {-1, 20}) {
            type("0=(c");
            refused("teach(" + message + ")", INDEX);
            type("c");
            refused("teach(" + message + ")", INDEX);
            type("dd");
            refused("teach(" + message + ")", INDEX);
            refused("message(" + message + ", 4)", INDEX);
            refused("message(" + message + ", -1)", INDEX);
            refused("note(" + message + ", 8)", INDEX);
            refused("note(" + message + ", -1)", INDEX);
            refused("whistle(0, " + message + ")", INDEX);
            refused("ifWhistled(0, " + message + ", 4)", INDEX);
        }
        another();
        aBusySchool();
        for (int room : new int[] {-1, 6}) {
            refused("room(" + room + ", 6)", INDEX);
            refused("whistle(" + room + ", 3)", INDEX);
            refused("ifWhistled(" + room + ", 12, -1)", INDEX);
            refused("ifWhistled(" + room + ", 3, 4)", INDEX);
            refused("set(" + (room < 0 ? -1 : 2) + ", 10)", INDEX);
            refused("set(" + (room < 0 ? -1 : 2) + ", -1)", INDEX);
        }
        refused("ifWhistled(0, 3, 4)", ARGUMENT);
        type("(d");
        refused("teach(3)", ARGUMENT);
        type("dd(");
        refused("teach(3)", ARGUMENT);
        type("c".repeat(60));
        refused("append(32)", ARGUMENT);
        refused("append(127)", ARGUMENT);
        refused("append(126)", STATE);
    }
}
