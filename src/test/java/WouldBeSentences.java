/** The sentences of the promises 25 to 31: what would be, a test for each. */
final class WouldBeSentences extends Sentences {
    private static final String MESSAGE = "- `message`: 0 to 19";
    private static final String ROOM = "- `room`: 0 to 5";
    private static final String NO_MESSAGE = "Throws `IndexOutOfBoundsException` if there is no such message";
    private static final String NO_ROOM_OR_MESSAGE = "Throws `IndexOutOfBoundsException` if there is no such room or message";

    static void run() {
        nothingIsChanged();
        decode();
        whatDecodeRefuses();
        keyOf();
        whyNot();
        ifWhistled();
        whatIfWhistledAnswers();
        bestRoom();
        whichRoomIsBest();
        understoodShare();
        digest();
    }

    private static void nothingIsChanged() {
        sentence("Exceptions", "Ahead of the calls `decode`, `keyOf`, `whyNot`, `ifWhistled`, `bestRoom`, `understoodShare`, `digest`"
            + " the interface says: ---- what would be; nothing is changed.");
        aSchool();
        type("gadc");
        unchanging("decode(0, 0)", -1);
        unchanging("decode(2, 0)", 12);
        unchanging("decode(2, 1)", 12);
        unchanging("keyOf()", 2);
        unchanging("whyNot(3, 0)", 1);
        for (int what = 0; what < 4; what++) {
            unchanging("ifWhistled(1, 12, " + what + ")", new int[] {61, 37, 6, 0}[what]);
            unchanging("ifWhistled(4, 12, " + what + ")", new int[] {47, 8, 6, 8}[what]);
        }
        unchanging("bestRoom(13)", 0);
        unchanging("bestRoom(12)", -1);
        unchanging("understoodShare()", 7.0 / 15.0);
        unchanging("digest()", answerWithout("digest()"));
    }

    private static void decode() {
        String part = "Promise 25: decode";
        sentence(part, "Decodes the tune that the buffer is as a text, as it was whistled.");
        teach(7, "gh(c)2");
        for (int way = 0; way < 2; way++) {
            type("gh(c)2");
            due("decode(0, " + way + ")", 7);
            due("decode(1, " + way + ")", -1);
            type("ac(d)2");
            due("decode(0, " + way + ")", -1);
            due("decode(1, " + way + ")", 7);
            type("fahh");
            due("decode(6, " + way + ")", 7);
            due("decode(5, " + way + ")", -1);
        }
        sentence(part, "- `key`: 0 to 6");
        type("cd");
        range("decode(#, 0)", 0, 6, ARGUMENT);
        range("decode(#, 1)", 0, 6, ARGUMENT);
        sentence(part, "- `way`: 0 by the tree, 1 by going through the messages");
        teach(0, "ag");
        teach(19, "agf");
        type("ag");
        range("decode(0, #)", 0, 1, ARGUMENT);
        due("decode(0, 0)", 0);
        due("decode(0, 1)", 0);
        type("dch");
        due("decode(3, 0)", 19);
        due("decode(3, 1)", 19);
        sentence(part, "Returns the message; NONE if it tells nothing (as one of fewer than 2 or more than 8 notes does).");
        teach(0, "cc");
        teach(1, "(((c)2)2)2");
        teach(2, "(cd)3e");
        String[] texts = {"c", "cc", "ccc", "((c)2)3c", "(((c)2)2)2", "ccccccccc", "(((c)3)3)3", "(cd)3", "(cd)3e", "(cd)3ef",
            "(cd)3efg", "d", "dd"};
        int[] messages = {-1, 0, -1, -1, 1, -1, -1, -1, 2, -1, -1, -1, -1};
        for (int index = 0; index < texts.length; index++) {
            type(texts[index]);
            due("decode(0, 0)", messages[index]);
            due("decode(0, 1)", messages[index]);
        }
    }

    private static void whatDecodeRefuses() {
        String part = "Promise 25: decode";
        sentence(part, "Throws `IllegalArgumentException` if the buffer is not a tune as a text, complete and without a syntax error (of"
            + " any number of notes)");
        for (String text : new String[] {"", "(", "(cd", "(cd)", "cd(", "b", "cdb", "cd,", "0=cd", "(cd)1", "((((c)2)2)2)2", "cd)"}) {
            another();
            teach(0, "cd");
            type(text);
            refused("decode(0, 0)", ARGUMENT);
            refused("decode(0, 1)", ARGUMENT);
        }
        for (String text : new String[] {"c", "(((c)3)3)3", "c".repeat(60)}) {
            another();
            type(text);
            unchanging("decode(0, 0)", -1);
            unchanging("decode(0, 1)", -1);
        }
        sentence(part, "or key is out of range");
        teach(0, "cd");
        type("cd");
        refused("decode(-1, 0)", ARGUMENT);
        refused("decode(7, 0)", ARGUMENT);
        refused("decode(7, 1)", ARGUMENT);
        refused("decode(-1, 1)", ARGUMENT);
        due("decode(0, 1)", 0);
        type("hc");
        due("decode(6, 1)", 0);
        sentence(part, "or way is neither 0 nor 1");
        type("cd");
        refused("decode(0, -1)", ARGUMENT);
        refused("decode(0, 2)", ARGUMENT);
        refused("decode(7, 2)", ARGUMENT);
        due("decode(0, 0)", -1);
        due("decode(0, 1)", -1);
    }

    private static void keyOf() {
        String part = "Promise 26: keyOf";
        sentence(part, "Finds the key by which the tune that the buffer is was whistled.");
        teach(5, "ehe");
        teach(6, "ehf");
        String[] whistled = {"ehe", "fcf", "gdg", "aea", "hfh", "cgc", "dad"};
        for (int key = 0; key < 7; key++) {
            type(whistled[key]);
            due("keyOf()", key);
        }
        sentence(part, "Returns the key by which it is decoded as a message; NONE if there is none.");
        type("eh");
        due("keyOf()", -1);
        teach(19, "cc");
        teach(18, "cccccccc");
        String[] texts = {"c", "cc", "hh", "ccc", "(((a)2)2)2", "hhhhhhhhh", "(((c)3)3)3", "cd"};
        int[] keys = {-1, 0, 6, -1, 5, -1, -1, -1};
        for (int index = 0; index < texts.length; index++) {
            type(texts[index]);
            due("keyOf()", keys[index]);
        }
        answer("forget(19)");
        type("cc");
        due("keyOf()", -1);
        sentence(part, "Throws `IllegalArgumentException` if the buffer is not a tune as a text, complete and without a syntax error");
        for (String text : new String[] {"", "(", "(cd", "(cd)", "cd(", "b", "cdb", "cd,", "0=cd", "(cd)4", "((((c)2)2)2)2", "cd)"}) {
            another();
            teach(0, "cd");
            type(text);
            refused("keyOf()", ARGUMENT);
        }
    }

    private static void whyNot() {
        String part = "Promise 27: whyNot";
        sentence(part, "Tells why a message cannot be whistled.");
        aSchool();
        int[] reasons = {0, 0, 0, 1, 0, 1};
        for (int room = 0; room < 6; room++) {
            due("whyNot(" + room + ", 12)", reasons[room]);
            due("whyNot(" + room + ", 1)", reasons[room] == 1 ? 1 : 2);
        }
        sentence(part, ROOM);
        range("whyNot(#, 0)", 0, 5, INDEX);
        sentence(part, MESSAGE);
        range("whyNot(0, #)", 0, 19, INDEX);
        sentence(part, "Returns the reason, 1 or 2; 0 if it can.");
        for (int message = 0; message < 20; message++) {
            due("whyNot(0, " + message + ")", 2);
        }
        teach(19, "cd");
        answer("ban(0, 19)");
        due("whyNot(0, 19)", 0);
        due("whyNot(0, 18)", 2);
        times(3, "whistle(0, 19)");
        due("whyNot(0, 19)", 1);
        due("whyNot(0, 18)", 1);
        due("whyNot(1, 19)", 0);
        times(7, "bell()");
        due("whyNot(0, 19)", 0);
        sentence(part, NO_ROOM_OR_MESSAGE);
        for (String call : new String[] {"whyNot(-1, 0)", "whyNot(6, 19)", "whyNot(0, -1)", "whyNot(5, 20)", "whyNot(6, 20)"}) {
            refused(call, INDEX);
        }
        due("whyNot(5, 19)", 2);
        due("whyNot(0, 0)", 2);
    }

    private static void ifWhistled() {
        String part = "Promise 28: ifWhistled";
        sentence(part, "Tells what a whistle would bring.");
        for (int room = 0; room < 6; room++) {
            for (int message = 11; message < 14; message++) {
                another();
                aSchool();
                teach(11, "cf");
                answer("set(0, 1)");
                answer("set(1, 9)");
                answer("bell()");
                isAsForeseen(room, message);
            }
        }
        sentence(part, ROOM);
        teach(0, "cd");
        range("ifWhistled(#, 0, 0)", 0, 5, INDEX);
        range("ifWhistled(#, 1, 3)", 0, 5, INDEX);
        sentence(part, MESSAGE);
        range("ifWhistled(0, #, 0)", 0, 19, INDEX);
        sentence(part, NO_ROOM_OR_MESSAGE);
        teach(19, "cd");
        for (String room : new String[] {"-1, 19", "6, 19", "0, -1", "5, 20", "6, 20"}) {
            refused("ifWhistled(" + room + ", 0)", INDEX);
            refused("ifWhistled(" + room + ", 4)", INDEX);
        }
        due("ifWhistled(5, 19, 0)", 28);
        due("ifWhistled(0, 0, 0)", -1);
        sentence(part, "Throws `IllegalArgumentException` if what is not 0 to 3");
        teach(12, "cd");
        range("ifWhistled(0, 12, #)", 0, 3, ARGUMENT);
        range("ifWhistled(0, 0, #)", 0, 3, ARGUMENT);
    }

    private static void isAsForeseen(int room, int message) {
        String whistle = "(" + room + ", " + message;
        int heard = (int) number(answer("ifWhistled" + whistle + ", 0)"));
        String understood = answer("ifWhistled" + whistle + ", 1)");
        String caught = answer("ifWhistled" + whistle + ", 2)");
        String raised = answer("ifWhistled" + whistle + ", 3)");
        int[] before = whistlesHeard();
        due("whistle" + whistle + ")", Integer.bitCount((int) number(understood)));
        due("latest(3)", understood);
        due("latest(4)", caught);
        due("latest(5)", raised);
        int[] after = whistlesHeard();
        for (int other = 0; other < 6; other++) {
            compare("whistles that room " + other + " heard", heard >> other & 1, after[other] - before[other]);
        }
    }

    private static int[] whistlesHeard() {
        int[] heard = new int[6];
        for (int room = 0; room < 6; room++) {
            heard[room] = (int) (number(answer("room(" + room + ", 4)")) + number(answer("room(" + room + ", 5)")));
        }
        return heard;
    }

    /** The rooms 0 and 2 have the key of now 1, the others the old key 0; the master 0 forbids the alarm 12. */
    private static void twoKeys() {
        teach(11, "cd");
        teach(12, "ce");
        answer("key(1)");
        answer("tell(0)");
        answer("tell(2)");
        answer("ban(0, 12)");
    }

    private static void foreseen(int what, int message, int... wants) {
        for (int room = 0; room < wants.length; room++) {
            due("ifWhistled(" + room + ", " + message + ", " + what + ")", wants[room]);
        }
    }

    private static void whatIfWhistledAnswers() {
        String part = "Promise 28: ifWhistled";
        sentence(part, "- `what`: 0: a mask of the rooms that would hear it;");
        twoKeys();
        foreseen(0, 12, 14, 13, 59, 55, 44, 28);
        answer("set(0, 0)");
        foreseen(0, 11, 2, 1, 8, 4, 32, 16);
        answer("set(0, 2)");
        foreseen(0, 12, 62, 61, 59, 55, 47, 31);
        sentence(part, "1: of those that would understand it;");
        twoKeys();
        foreseen(1, 12, 4, 8, 1, 50, 40, 24);
        foreseen(1, 11, 4, 8, 1, 50, 40, 24);
        sentence(part, "2: of the masters who would catch the room;");
        twoKeys();
        foreseen(2, 12, 1, 1, 1, 1, 0, 0);
        foreseen(2, 11, 0, 0, 0, 0, 0, 0);
        answer("ban(2, 12)");
        foreseen(2, 12, 1, 1, 5, 5, 4, 4);
        answer("bell()");
        foreseen(2, 12, 5, 5, 5, 5, 1, 1);
        sentence(part, "3: of the rooms that would be raised by it");
        twoKeys();
        foreseen(3, 12, 4, 0, 1, 0, 0, 0);
        foreseen(3, 11, 0, 0, 0, 0, 0, 0);
        answer("whistle(0, 12)");
        foreseen(3, 12, 4, 0, 1, 0, 0, 0);
        answer("key(0)");
        foreseen(3, 12, 0, 8, 0, 50, 40, 24);

        sentence(part, "Returns the mask; NONE if it cannot be whistled.");
        twoKeys();
        answer("set(1, 1)");
        dueEach("ifWhistled(0, 12, ", 14, 4, 1, 4);
        dueEach("ifWhistled(0, 13, ", -1, -1, -1, -1);
        answer("whistle(0, 12)");
        dueEach("ifWhistled(0, 12, ", -1, -1, -1, -1);
        dueEach("ifWhistled(0, 13, ", -1, -1, -1, -1);
        answer("tell(4)");
        dueEach("ifWhistled(4, 11, ", 44, 4, 0, 0);
        answer("set(0, 0)");
        dueEach("ifWhistled(4, 11, ", 32, 0, 0, 0);
        answer("forget(11)");
        dueEach("ifWhistled(4, 11, ", -1, -1, -1, -1);
    }

    private static void bestRoom() {
        String part = "Promise 29: bestRoom";
        sentence(part, "Finds the best room for a message.");
        teach(0, "cd");
        due("bestRoom(0)", 2);
        answer("set(0, 2)");
        due("bestRoom(0)", 0);
        sentence(part, MESSAGE);
        range("bestRoom(#)", 0, 19, INDEX);
        sentence(part, NO_MESSAGE);
        teach(0, "cd");
        teach(19, "ce");
        refused("bestRoom(-1)", INDEX);
        refused("bestRoom(20)", INDEX);
        due("bestRoom(0)", 2);
        due("bestRoom(19)", 2);
    }

    private static void whichRoomIsBest() {
        String part = "Promise 29: bestRoom";
        sentence(part, "Returns of the rooms that can whistle it");
        teach(12, "ce");
        teach(13, "cf");
        answer("ban(1, 13)");
        answer("set(1, 1)");
        due("bestRoom(12)", 2);
        answer("whistle(2, 13)");
        due("bestRoom(12)", 3);
        answer("whistle(3, 13)");
        due("bestRoom(12)", 0);
        answer("set(1, 2)");
        due("bestRoom(12)", 2);
        sentence(part, "without being caught");
        teach(12, "ce");
        answer("ban(0, 12)");
        due("bestRoom(12)", 4);
        due("bestRoom(13)", -1);
        answer("ban(2, 12)");
        due("bestRoom(12)", -1);
        answer("set(0, 0)");
        due("bestRoom(12)", 2);
        answer("ban(1, 12)");
        due("bestRoom(12)", -1);
        answer("ban(0, 12)");
        due("bestRoom(12)", 0);
        answer("bell()");
        due("bestRoom(12)", 2);
        sentence(part, "the one that would be understood by the most rooms;");
        teach(12, "ce");
        answer("key(1)");
        for (int room = 2; room < 6; room++) {
            answer("tell(" + room + ")");
        }
        due("bestRoom(12)", 2);
        teach(13, "cf");
        answer("ban(1, 13)");
        answer("set(1, 1)");
        for (int room = 2; room < 5; room++) {
            answer("whistle(" + room + ", 13)");
            due("bestRoom(12)", room + 1);
        }
        answer("whistle(5, 13)");
        due("bestRoom(12)", 0);
        sentence(part, "of several the lowest;");
        teach(12, "ce");
        answer("key(1)");
        answer("tell(2)");
        answer("tell(4)");
        answer("tell(5)");
        foreseen(1, 12, 10, 9, 48, 3, 36, 20);
        due("bestRoom(12)", 0);
        for (int room = 0; room < 6; room++) {
            answer("key(" + (6 - room) + ")");
            answer("tell(" + room + ")");
        }
        due("bestRoom(12)", 0);
        sentence(part, "NONE if there is none.");
        for (int message = 0; message < 20; message++) {
            due("bestRoom(" + message + ")", -1);
        }
        teach(19, "cd");
        due("bestRoom(19)", 2);
        answer("ban(1, 19)");
        due("bestRoom(19)", -1);
        answer("ban(1, 19)");
        answer("forget(19)");
        due("bestRoom(19)", -1);
        teach(0, "cd");
        teach(1, "ce");
        answer("ban(1, 0)");
        answer("set(1, 1)");
        for (int room = 0; room < 6; room++) {
            answer("whistle(" + room + ", 0)");
        }
        due("bestRoom(1)", -1);
    }

    private static void understoodShare() {
        String part = "Promise 30: understoodShare";
        sentence(part, "Returns how much was understood.");
        aSchool();
        due("understoodShare()", 7.0 / 15.0);
        sentence(part, "Returns the whistles that rooms understood so far, as a double, divided by those and those that were noise for"
            + " them, together;");
        teach(0, "cd");
        answer("key(1)");
        answer("tell(0)");
        String[] calls = {"whistle(0, 0)", "whistle(1, 0)", "whistle(5, 0)", "bell()", "forget(0)", "undo()", "undo()", "undo()"};
        double[] shares = {0.0, 2.0 / 6.0, 5.0 / 9.0, 5.0 / 9.0, 5.0 / 9.0, 5.0 / 9.0, 5.0 / 9.0, 2.0 / 6.0};
        for (int index = 0; index < calls.length; index++) {
            answer(calls[index]);
            due("understoodShare()", shares[index]);
        }
        another();
        teach(0, "cd");
        answer("whistle(0, 0)");
        due("understoodShare()", "1.0");
        another();
        teach(0, "cd");
        answer("set(0, 0)");
        answer("key(1)");
        answer("tell(0)");
        answer("whistle(0, 0)");
        due("understoodShare()", "0.0");
        answer("whistle(2, 0)");
        due("understoodShare()", 1.0 / 2.0);
        sentence(part, "1.0 without any.");
        due("understoodShare()", "1.0");
        teach(0, "cd");
        due("understoodShare()", "1.0");
        answer("key(1)");
        answer("tell(0)");
        answer("whistle(0, 0)");
        due("understoodShare()", "0.0");
        answer("undo()");
        due("understoodShare()", "1.0");
    }

    // ---- digest

    private static long with(long hash, String look) {
        return 31 * hash + (long) number(answerWithout(look));
    }

    private static long withEach(long hash, String look, int many) {
        long all = hash;
        for (int what = 0; what < many; what++) {
            all = with(all, look + what + ")");
        }
        return all;
    }

    private static long hashed(String buffer) {
        long hash = withEach(3911, "count(", 14);
        for (int message = 0; message < 20; message++) {
            hash = withEach(hash, "message(" + message + ", ", 4);
            hash = withEach(hash, "note(" + message + ", ", 8);
            hash = with(hash, "bestRoom(" + message + ")");
        }
        for (int room = 0; room < 6; room++) {
            hash = withEach(hash, "room(" + room + ", ", 6);
            hash = with(hash, "whyNot(" + room + ", 0)");
            hash = withEach(hash, "ifWhistled(" + room + ", 12, ", 4);
        }
        hash = withEach(hash, "latest(", 6);
        hash = withEach(hash, "stopped(", 2);
        hash = 31 * hash + Double.doubleToLongBits(number(answerWithout("understoodShare()")));
        hash = 31 * hash + buffer.length();
        for (char sign : buffer.toCharArray()) {
            hash = 31 * hash + sign;
        }
        return hash;
    }

    private static void digest() {
        String part = "Promise 31: digest";
        sentence(part, "Computes a hash of the whole state.");
        aSchool();
        String[] calls = {"forget(0)", "key(5)", "tell(2)", "lookout(0, true)", "ban(0, 3)", "bell()", "set(0, 1)", "whistle(1, 12)",
            "append(126)", "append(33)", "clearBuffer()", "undo()"};
        for (String call : calls) {
            String before = answerWithout("digest()");
            answer(call);
            compare("digest() is the same after " + call, false, before.equals(answer("digest()")));
        }
        type("xy");
        String before = answer("digest()");
        type("yx");
        compare("digest() is the same of xy and yx", false, before.equals(answer("digest()")));
        sentence(part, "Returns the hash.");
        String first = answer("digest()");
        due("digest()", first);
        answer("bell()");
        answer("undo()");
        due("digest()", first);
        sentence(part, "The hash starts at 3911.");
        due("digest()", hashed(""));
        sentence(part, "For each value v of the following list, in order, the hash becomes 31 * hash + v, in long arithmetic with"
            + " overflow.");
        type("!,k3,w0:5");
        due("digest()", hashed("!,k3,w0:5"));
        answer("play()");
        due("digest()", hashed(""));
        digestValues(part);
    }

    private static void digestValues(String part) {
        sentence(part, "The values are: count(0) to count(13); for each message its numbers 0 to 3, its notes of the places 0 to 7, and"
            + " bestRoom; for each room its numbers 0 to 5, whyNot of the message 0, and ifWhistled of the message 12 with 0 to 3;"
            + " latest with 0 to 5; stopped with 0 and 1; the bits of understoodShare (as Double.doubleToLongBits); the length of the"
            + " buffer and each of its character codes.");
        aSchool();
        due("digest()", hashed(""));
        teach(19, "cdefgahc");
        type("w0:13,w1:19,w0:7");
        answer("play()");
        String full = "~!" + "x".repeat(57) + "c";
        type(full);
        due("digest()", hashed(full));
        for (int many = 1; many <= 12; many++) {
            answer("whistle(" + (many % 3) + ", 13)");
            answer("tell(" + (many % 6) + ")");
            due("digest()", hashed(full));
        }
        another();
        teach(0, "cd");
        answer("key(1)");
        answer("tell(0)");
        answer("whistle(0, 0)");
        due("digest()", hashed(""));
        times(100, "whistle(1, 0)");
        due("digest()", hashed(""));
        times(300, "whistle(0, 0)");
        due("digest()", hashed(""));
    }
}
