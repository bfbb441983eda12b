/** The sentences of the promises 11 to 19: the buffer, evenings, undo and the snapshot, a test for each. */
final class TextCallSentences extends Sentences {
    static void run() {
        appending();
        clearing();
        eveningErrors();
        tuneErrors();
        playing();
        playingUpToAStop();
        undoingPlay();
        latestStop();
        whatPlayAnswers();
        stopped();
        undo();
        keep();
        restore();
    }

    private static void appending() {
        String part = "Promise 11: append";
        sentence(part, "Appends a character to the buffer.");
        type("cd");
        answer("append(101)");
        due("teach(0)", 3);
        tune(0, 0, 1, 2);
        unsaved("append(99)", 1);
        sentence(part, "- `code`: the character code, 33 to 126");
        range("append(#)", 33, 126, ARGUMENT);
        sentence(part, "Returns the new length of the buffer.");
        for (int length = 1; length <= 60; length++) {
            due("append(" + (32 + length) + ")", length);
        }
        answer("clearBuffer()");
        due("append(126)", 1);
        sentence(part, "Throws `IllegalArgumentException` if code is not 33 to 126");
        due("append(33)", 1);
        refused("append(32)", ARGUMENT);
        refused("append(127)", ARGUMENT);
        due("append(126)", 2);
        type("c".repeat(60));
        refused("append(32)", ARGUMENT);
        refused("append(127)", ARGUMENT);
        sentence(part, "Throws `IllegalStateException` if the buffer has 60 characters");
        type("c".repeat(59));
        due("append(33)", 60);
        refused("append(33)", STATE);
        refused("append(126)", STATE);
        due("clearBuffer()", 60);
        due("append(33)", 1);
    }

    /** The call answers and saves no state. */
    private static void unsaved(String call, Object want) {
        answer("key(1)");
        String saved = answer("count(13)");
        due(call, want);
        due("count(13)", saved);
        due("undo()", (int) number(saved) - 1);
        due("count(1)", 0);
    }

    private static void clearing() {
        String part = "Promise 12: clearBuffer";
        sentence(part, "Clears the buffer.");
        type("x!");
        unsaved("clearBuffer()", 2);
        due("firstError()", 0);
        due("clearBuffer()", 0);
        type("gh");
        due("teach(0)", 2);
        tune(0, 4, 6);
        sentence(part, "Returns the length that it had.");
        due("clearBuffer()", 0);
        for (int length = 1; length <= 20; length++) {
            typeMore("c".repeat(length));
            due("clearBuffer()", length);
        }
        typeMore("c".repeat(60));
        answer("append(99)");
        due("clearBuffer()", 60);
        due("clearBuffer()", 0);
    }

    private static void finds(String finder, String[] texts, int[] places) {
        for (int index = 0; index < texts.length; index++) {
            another();
            type(texts[index]);
            unchanging(finder, places[index]);
        }
    }

    private static int[] lengths(String[] texts) {
        int[] found = new int[texts.length];
        for (int index = 0; index < texts.length; index++) {
            found[index] = texts[index].length();
        }
        return found;
    }

    private static void eveningErrors() {
        String part = "Promise 13: firstError";
        String full = "k0" + ",!".repeat(29);
        sentence(part, "Finds the first syntax error of the buffer as an evening.");
        finds("firstError()", new String[] {"cd", "(cd)2", "0=cd", "w0:1,b", "!,(", "12=c(d"}, new int[] {0, 0, 4, 5, 2, 6});
        another();
        type("0=cd,");
        due("tuneError()", 0);
        due("firstError()", 5);
        sentence(part, "Returns the index of the first character that is a syntax error;");
        String[] wrong = {"x", "!x", "xx", "!x!x", full.substring(0, 59) + "x", full.substring(0, 58) + "xx", "a" + full.substring(1)};
        finds("firstError()", wrong, new int[] {0, 1, 0, 1, 59, 58, 0});
        sentence(part, "the length of the buffer if there is none.");
        String[] right = {"", "!", "1", "w", "0=c", "!,", "19=(((c)2)2)2,w5:19,t5,k6,!", full, full.substring(0, 59), "!,".repeat(30)};
        finds("firstError()", right, lengths(right));
    }

    private static void tuneErrors() {
        String part = "Promise 14: tuneError";
        String full = "cdefgah".repeat(8) + "(cd)";
        sentence(part, "Finds the first syntax error of the buffer as a tune alone.");
        finds("tuneError()", new String[] {"0=cd", "cd,cd", "cd,", "!", "(c)2,", "cd("}, new int[] {0, 2, 2, 0, 4, 3});
        another();
        type("cd,");
        due("firstError()", 0);
        due("tuneError()", 2);
        sentence(part, "Returns the index of the first character that is a syntax error;");
        String[] wrong = {"b", "cb", "bb", "cbcb", full.substring(0, 59) + "b", full.substring(0, 58) + ")b", "b" + full.substring(1)};
        finds("tuneError()", wrong, new int[] {0, 1, 0, 1, 59, 59, 0});
        sentence(part, "the length of the buffer if there is none.");
        String[] right = {"", "c", "(", "(c", "(c)", "(c)2", "(((c)2)2)2", full, full.substring(0, 59), "((" + full.substring(0, 58)};
        finds("tuneError()", right, lengths(right));
    }

    // ---- play

    private static void playing() {
        String part = "Promise 15: play";
        sentence(part, "Lets the evening in the buffer happen, part by part,");
        type("12=cd,k4,t0,t1,w0:12,12=gh,!,k5,t1");
        due("play()", 9);
        tune(12, 4, 6);
        due("count(0)", 1);
        due("count(1)", 5);
        dueEach("latest(", 0, 12, 3, 2, 0, 2);
        due("room(0, 0)", 4);
        due("room(1, 0)", 5);
        due("count(6)", 0);
        type("w0:3,3=cd");
        due("play()", 0);
        type("3=cd,w0:3");
        due("play()", 2);
        type("k0,t2,k1,t3");
        due("play()", 4);
        due("room(2, 0)", 0);
        due("room(3, 0)", 1);
    }

    private static void playingUpToAStop() {
        String part = "Promise 15: play";
        sentence(part, "up to the first part for which the method would throw an exception,");
        teach(0, "cd");
        answer("ban(0, 0)");
        answer("ban(1, 0)");
        answer("set(1, 2)");
        String[] texts = {"!,!,1=c,!", "!,1=cdefgahcd,!", "1=de,!", "!,!,!,w5:1,!", "w0:0,w0:0,!", "k3,k4,k5,w3:2"};
        int[] parts = {2, 1, 0, 3, 1, 3};
        int[] nights = {2, 3, 3, 6, 6, 6};
        int[] reasons = {3, 3, 4, 2, 1, 2};
        for (int index = 0; index < texts.length; index++) {
            type(texts[index]);
            due("play()", parts[index]);
            due("stopped(0)", parts[index]);
            due("stopped(1)", reasons[index]);
            due("count(0)", nights[index]);
        }
        due("count(1)", 5);

        sentence(part, "and clears the buffer.");
        for (String text : new String[] {"!", "!,!,w0:0,!", "w0:0", "0=cd,w0:0"}) {
            type(text);
            answer("play()");
            due("clearBuffer()", 0);
        }
    }

    private static void undoingPlay() {
        String part = "Promise 15: play";
        sentence(part, "Undoable, as one call, also if nothing happens.");
        type("0=cd,w0:0,!,k3,t3");
        undoable("play()", 5);
        due("count(13)", 1);
        type("!,w0:19,!");
        undoable("play()", 1);
        due("count(13)", 2);
        type("w0:19");
        undoable("play()", 0);
        due("count(13)", 3);
        type("w0:19");
        undoable("play()", 0);
        due("count(13)", 4);
        times(2, "undo()");
        due("stopped(0)", 1);
        due("count(0)", 2);
        times(2, "undo()");
        due("count(0)", 0);
        due("count(2)", 0);
        another();
        times(6, "key(3)");
        type("!,!,!,!");
        due("play()", 4);
        due("count(13)", 6);
        times(6, "undo()");
        due("count(1)", 3);
        due("count(0)", 0);
    }

    private static void latestStop() {
        String part = "Promise 15: play";
        sentence(part, "The latest stop is that of this call then, or none, if all happens.");
        type("!,!,w0:0");
        answer("play()");
        dueEach("stopped(", 2, 2);
        type("1=c");
        answer("play()");
        dueEach("stopped(", 0, 3);
        type("0=cd,1=de");
        answer("play()");
        dueEach("stopped(", 1, 4);
        type("(");
        due("play()", ARGUMENT);
        due("whistle(0, 5)", STATE);
        dueEach("stopped(", 1, 4);
        type("!");
        answer("play()");
        dueEach("stopped(", -1, -1);
        type("!,w5:5");
        answer("play()");
        dueEach("stopped(", 1, 2);
    }

    private static void whatPlayAnswers() {
        String part = "Promise 15: play";
        sentence(part, "Returns how many parts happen.");
        for (int parts = 1; parts <= 30; parts++) {
            another();
            type("!" + ",!".repeat(parts - 1));
            due("play()", parts);
            due("count(0)", parts);
        }
        for (int parts = 0; parts <= 10; parts++) {
            another();
            type("k1,".repeat(parts) + "w0:0,k2,k3");
            due("play()", parts);
            due("count(1)", parts == 0 ? 0 : 1);
        }
        another();
        type("k0" + ",!".repeat(29));
        due("play()", 30);
        due("count(0)", 29);

        sentence(part, "Throws `IllegalArgumentException` if the buffer is not a complete evening as a text (the buffer stays)");
        String[] texts = {"", ",", "!,", ",!", "!!", "!x", "1", "19", "0=", "0=(", "0=(c", "0=(c)", "0=c(d)2)", "w", "w0", "w0:", "w0:20",
            "t", "t6", "k", "k7", "cd", "0=cd,1", "!,".repeat(30), "!,".repeat(29) + "!x", "!," + "0=((((c)2)2)2)2"};
        for (String text : texts) {
            another();
            type(text);
            refused("play()", ARGUMENT);
            due("clearBuffer()", text.length());
        }
        another();
        type("w0:");
        refused("play()", ARGUMENT);
        typeMore("1");
        due("play()", 0);
        due("stopped(1)", 2);
    }

    private static void stopped() {
        String part = "Promise 16: stopped";
        sentence(part, "Tells of the latest stop of play().");
        type("!,w0:0");
        answer("play()");
        due("whistle(0, 0)", STATE);
        type("c");
        due("teach(0)", STATE);
        answer("key(3)");
        unchanging("stopped(0)", 1);
        unchanging("stopped(1)", 2);
        sentence(part, "- `what`: 0: the number of the part that stopped it, from 0;");
        for (int parts = 0; parts <= 18; parts++) {
            another();
            type("k1,".repeat(parts) + "w0:0");
            answer("play()");
            due("stopped(0)", parts);
        }
        sentence(part, "1: the reason, 1 to 4");
        teach(0, "cd");
        answer("ban(0, 0)");
        answer("set(1, 1)");
        String[] texts = {"w0:1", "w0:0,w0:0", "w0:1", "1=c", "1=gh", "1=hc"};
        int[] reasons = {2, 1, 1, 3, -1, 4};
        for (int index = 0; index < texts.length; index++) {
            type(texts[index]);
            answer("play()");
            due("stopped(1)", reasons[index]);
        }
        sentence(part, "Returns the number; NONE if there is no stop.");
        dueEach("stopped(", -1, -1);
        type("!");
        answer("play()");
        dueEach("stopped(", -1, -1);
        type("w0:0");
        answer("play()");
        dueEach("stopped(", 0, 2);
        answer("undo()");
        dueEach("stopped(", -1, -1);
        sentence(part, "Throws `IllegalArgumentException` if what is neither 0 nor 1");
        range("stopped(#)", 0, 1, ARGUMENT);
        type("w0:0");
        answer("play()");
        range("stopped(#)", 0, 1, ARGUMENT);
    }

    // ---- undo, the snapshot

    private static void undo() {
        String part = "Promise 17: undo";
        sentence(part, "Restores the latest saved state, and drops it.");
        times(3, "bell()");
        answer("key(5)");
        answer("undo()");
        due("count(1)", 0);
        due("count(0)", 3);
        answer("undo()");
        due("count(0)", 2);
        answer("key(4)");
        answer("undo()");
        answer("undo()");
        due("count(0)", 1);
        due("count(1)", 0);
        sentence(part, "Returns how many saved states are left.");
        times(5, "bell()");
        for (int left = 4; left >= 0; left--) {
            due("undo()", left);
            due("count(13)", left);
        }
        times(9, "bell()");
        for (int left = 5; left >= 0; left--) {
            due("undo()", left);
            due("count(13)", left);
        }
        sentence(part, "Throws `IllegalStateException` if there is none");
        type("0=(c");
        refused("undo()", STATE);
        answer("keep()");
        refused("undo()", STATE);
        answer("bell()");
        due("undo()", 0);
        refused("undo()", STATE);
        times(8, "bell()");
        times(5, "undo()");
        due("undo()", 0);
        refused("undo()", STATE);
        due("count(0)", 2);
    }

    private static void keep() {
        String part = "Promise 18: keep";
        sentence(part, "Takes a snapshot, in place of the one before.");
        teach(0, "cd");
        answer("bell()");
        answer("keep()");
        due("count(13)", 2);
        answer("forget(0)");
        answer("bell()");
        answer("key(2)");
        due("restore()", 1);
        tune(0, 0, 1);
        answer("key(6)");
        answer("bell()");
        answer("forget(0)");
        answer("keep()");
        answer("key(1)");
        due("restore()", 2);
        tune(0);
        due("count(1)", 6);
        times(6, "undo()");
        due("restore()", 2);
        due("count(1)", 6);
        another();
        unsaved("keep()", 0);
        times(6, "lookout(1, true)");
        answer("keep()");
        times(6, "undo()");
        due("count(5)", 0);
        sentence(part, "Returns the night.");
        due("keep()", 0);
        for (int night = 1; night <= 8; night++) {
            answer("bell()");
            due("keep()", night);
            due("keep()", night);
        }
        answer("undo()");
        due("keep()", 7);
    }

    private static void restore() {
        String part = "Promise 19: restore";
        sentence(part, "Restores the state of the snapshot, which stays.");
        teach(12, "cd");
        answer("lookout(0, true)");
        answer("ban(0, 12)");
        answer("key(2)");
        answer("tell(5)");
        answer("set(0, 2)");
        answer("set(1, 5)");
        type("k0,w0:12,w0:3");
        answer("play()");
        String[] looks = {"count(0)", "count(1)", "count(2)", "count(5)", "count(6)", "count(8)", "count(9)", "count(11)", "count(12)",
            "latest(0)", "latest(3)", "stopped(0)", "stopped(1)", "note(12, 1)", "message(12, 1)", "message(12, 2)", "message(12, 3)",
            "room(5, 0)", "room(4, 4)", "room(5, 5)", "room(0, 1)", "understoodShare()", "message(12, 0)", "note(12, 2)"};
        Object[] kept = {0, 0, 1, 1, 4, 1, 1, 2, 5, 0, 30, 2, 2, 1, 1, 1, 4, 2, 1, 1, 1, 0.8, 2, -1};
        answer("keep()");
        for (int round = 0; round < 3; round++) {
            times(7, "bell()");
            answer("lookout(0, false)");
            answer("ban(0, 12)");
            answer("whistle(3, 12)");
            teach(12, "gfe");
            answer("key(4)");
            answer("tell(5)");
            answer("set(0, 1)");
            answer("set(1, 1)");
            type("!,0=c");
            answer("play()");
            due("restore()", 0);
            for (int index = 0; index < looks.length; index++) {
                due(looks[index], kept[index]);
            }
        }
        sentence(part, "Undoable.");
        teach(12, "cd");
        answer("keep()");
        answer("whistle(0, 12)");
        undoable("restore()", 0);
        undoable("restore()", 0);
        sentence(part, "Returns the night then.");
        due("keep()", 0);
        times(3, "bell()");
        due("restore()", 0);
        times(5, "bell()");
        due("keep()", 5);
        due("bell()", 6);
        due("restore()", 5);
        due("count(0)", 5);
        sentence(part, "Throws `IllegalStateException` if there is no snapshot");
        refused("restore()", STATE);
        teach(0, "cd");
        answer("undo()");
        refused("restore()", STATE);
        due("keep()", 0);
        due("restore()", 0);
        answer("undo()");
        due("restore()", 0);
    }
}
