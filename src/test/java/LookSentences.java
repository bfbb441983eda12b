/** The sentences of the promises 20 to 24: looks, a test for each. */
final class LookSentences extends Sentences {
    private static final String MESSAGE = "- `message`: 0 to 19";
    private static final String ROOM = "- `room`: 0 to 5";
    private static final String NO_MESSAGE = "Throws `IndexOutOfBoundsException` if there is no such message";

    static void run() {
        nothingIsChanged();
        message();
        note();
        room();
        latest();
        firstCounts();
        laterCounts();
    }

    private static void nothingIsChanged() {
        sentence("Exceptions", "Ahead of the calls `message`, `note`, `room`, `latest`, `count` the interface says: ---- looks; nothing"
            + " is changed.");
        aSchool();
        type("efh(a");
        unchanging("message(12, 0)", 4);
        unchanging("note(12, 3)", 5);
        unchanging("note(12, 4)", -1);
        unchanging("room(3, 1)", 2);
        unchanging("latest(3)", 7);
        for (int what = 0; what < 14; what++) {
            unchanging("count(" + what + ")", answerWithout("count(" + what + ")"));
        }
    }

    private static void message() {
        String part = "Promise 20: message";
        sentence(part, "Returns something of a message.");
        aSchool();
        dueEach("message(12, ", 4, 6, 2, 4);
        dueEach("message(13, ", 3, 0, 1, 3);
        dueEach("message(0, ", 6, 0, 0, 0);
        dueEach("message(1, ", 0, 0, 0, 0);
        sentence(part, MESSAGE);
        for (int what = 0; what < 4; what++) {
            range("message(#, " + what + ")", 0, 19, INDEX);
        }
        sentence(part, "- `what`: 0: the notes of its tune, how many, 0 without one;");
        due("message(5, 0)", 0);
        for (String tune : new String[] {"cd", "cde", "cdef", "cdefg", "cdefga", "cdefgah", "cdefgahc"}) {
            teach(5, tune);
            due("message(5, 0)", tune.length());
        }
        answer("forget(5)");
        due("message(5, 0)", 0);
        sentence(part, "1: a mask of the masters who forbid it, with the bit m for the master m;");
        for (int masters = 0; masters < 8; masters++) {
            another();
            for (int master = 0; master < 3; master++) {
                times(masters >> master & 1, "ban(" + master + ", 19)");
            }
            due("message(19, 1)", masters);
            due("message(0, 1)", 0);
            due("message(18, 1)", 0);
        }
        countedOfMessages(part);
        sentence(part, "Returns the number.");
        aSchool();
        for (int message = 0; message < 20; message++) {
            due("message(" + message + ", 0)", message == 0 ? 6 : message == 12 ? 4 : message == 13 ? 3 : 0);
            due("message(" + message + ", 1)", message == 12 ? 6 : 0);
        }
        sentence(part, NO_MESSAGE);
        refused("message(-1, 0)", INDEX);
        refused("message(20, 0)", INDEX);
        refused("message(20, 4)", INDEX);
        due("message(0, 0)", 0);
        due("message(19, 0)", 0);
        sentence(part, "Throws `IllegalArgumentException` if what is not 0 to 3");
        range("message(0, #)", 0, 3, ARGUMENT);
        range("message(19, #)", 0, 3, ARGUMENT);
    }

    private static void countedOfMessages(String part) {
        sentence(part, "2: how often it was whistled so far;");
        teach(19, "cd");
        teach(0, "ce");
        answer("key(1)");
        answer("tell(0)");
        for (int many = 1; many <= 5; many++) {
            answer("whistle(0, 19)");
            due("message(19, 2)", many);
            due("message(0, 2)", 0);
        }
        due("whistle(0, 1)", STATE);
        due("message(1, 2)", 0);
        answer("ifWhistled(0, 19, 0)");
        answer("forget(19)");
        answer("bell()");
        due("message(19, 2)", 5);
        answer("whistle(0, 0)");
        due("message(0, 2)", 1);
        sentence(part, "3: how often it was understood so far, room by room");
        teach(19, "cd");
        teach(0, "ce");
        answer("whistle(0, 19)");
        due("message(19, 3)", 3);
        answer("whistle(2, 19)");
        due("message(19, 3)", 8);
        answer("key(1)");
        answer("tell(5)");
        answer("whistle(5, 19)");
        due("message(19, 3)", 8);
        answer("whistle(4, 19)");
        due("message(19, 3)", 10);
        due("message(0, 3)", 0);
    }

    private static void note() {
        String part = "Promise 21: note";
        sentence(part, "Returns a note of the tune of a message.");
        teach(0, "hagfedch");
        teach(19, "eg");
        dueEach("note(0, ", 6, 5, 4, 3, 2, 1, 0, 6);
        dueEach("note(19, ", 2, 4, -1, -1, -1, -1, -1, -1);
        sentence(part, MESSAGE);
        range("note(#, 0)", 0, 19, INDEX);
        range("note(#, 7)", 0, 19, INDEX);
        sentence(part, "- `place`: 0 to 7");
        range("note(0, #)", 0, 7, ARGUMENT);
        teach(19, "hagfedch");
        range("note(19, #)", 0, 7, ARGUMENT);
        sentence(part, "Returns the note; NONE if it has not so many.");
        int[] notes = {6, 5, 4, 3, 2, 1, 0, 6};
        for (int size = 2; size <= 8; size++) {
            teach(3, "hagfedch".substring(0, size));
            for (int place = 0; place < 8; place++) {
                due("note(3, " + place + ")", place < size ? notes[place] : -1);
            }
        }
        teach(3, "cd");
        dueEach("note(3, ", 0, 1, -1, -1, -1, -1, -1, -1);
        answer("forget(3)");
        dueEach("note(3, ", -1, -1, -1, -1, -1, -1, -1, -1);
        sentence(part, NO_MESSAGE);
        teach(0, "cd");
        refused("note(-1, 0)", INDEX);
        refused("note(20, 0)", INDEX);
        refused("note(20, 8)", INDEX);
        refused("note(-1, -1)", INDEX);
        due("note(0, 0)", 0);
        due("note(19, 0)", -1);
        sentence(part, "Throws `IllegalArgumentException` if place is out of range");
        teach(0, "cdefgahc");
        refused("note(0, -1)", ARGUMENT);
        refused("note(0, 8)", ARGUMENT);
        refused("note(1, 8)", ARGUMENT);
        due("note(0, 7)", 0);
        due("note(1, 7)", -1);
    }

    private static void room() {
        String part = "Promise 22: room";
        sentence(part, "Returns something of a room.");
        aSchool();
        int[][] rooms = {{0, 0, 0, 0, 1, 1}, {0, 0, 0, 0, 2, 1}, {0, 0, 0, 0, 2, 1}, {2, 2, 0, 1, 0, 2}, {2, 0, 1, 0, 1, 2},
            {0, 2, 0, 1, 1, 1}};
        for (int room = 0; room < 6; room++) {
            dueEach("room(" + room + ", ", rooms[room]);
        }
        sentence(part, ROOM);
        for (int what = 0; what < 6; what++) {
            range("room(#, " + what + ")", 0, 5, INDEX);
        }
        sentence(part, "- `what`: 0: its key;");
        aSchool();
        dueOfRooms(0, 0, 0, 0, 2, 2, 0);
        sentence(part, "1: its marks;");
        aSchool();
        dueOfRooms(1, 0, 0, 0, 2, 0, 2);
        sentence(part, "2: 1 if it is raised, otherwise 0;");
        aSchool();
        dueOfRooms(2, 0, 0, 0, 0, 1, 0);
        sentence(part, "3: 1 if it is silenced, otherwise 0;");
        aSchool();
        dueOfRooms(3, 0, 0, 0, 1, 0, 1);
        answer("set(1, 1)");
        dueOfRooms(3, 0, 0, 0, 1, 0, 1);
        answer("set(1, 3)");
        dueOfRooms(3, 0, 0, 0, 0, 0, 0);
        sentence(part, "4: whistles that it understood so far;");
        aSchool();
        answer("bell()");
        answer("forget(12)");
        dueOfRooms(4, 1, 2, 2, 0, 1, 1);
        sentence(part, "5: whistles that were noise for it so far");
        aSchool();
        answer("bell()");
        answer("forget(12)");
        dueOfRooms(5, 1, 1, 1, 2, 2, 1);
        sentence(part, "Returns the number.");
        for (int room = 0; room < 6; room++) {
            dueEach("room(" + room + ", ", 0, 0, 0, 0, 0, 0);
        }
        sentence(part, "Throws `IndexOutOfBoundsException` if there is no such room");
        refused("room(-1, 0)", INDEX);
        refused("room(6, 0)", INDEX);
        refused("room(6, 6)", INDEX);
        due("room(5, 0)", 0);
        sentence(part, "Throws `IllegalArgumentException` if what is not 0 to 5");
        range("room(0, #)", 0, 5, ARGUMENT);
        range("room(5, #)", 0, 5, ARGUMENT);
    }

    private static void dueOfRooms(int what, int... wants) {
        for (int room = 0; room < wants.length; room++) {
            due("room(" + room + ", " + what + ")", wants[room]);
        }
    }

    private static void latest() {
        String part = "Promise 23: latest";
        sentence(part, "Tells something of the latest whistle.");
        aSchool();
        dueEach("latest(", 5, 12, 7, 7, 6, 0);
        due("whistle(5, 12)", STATE);
        answer("bell()");
        answer("forget(12)");
        dueEach("latest(", 5, 12, 7, 7, 6, 0);
        sentence(part, "- `what`: 0: the room;");
        teach(19, "cd");
        for (int room = 0; room < 6; room++) {
            answer("whistle(" + room + ", 19)");
            due("latest(0)", room);
        }
        sentence(part, "1: the message;");
        String[] tunes = {"cd", "ce", "cf", "cg"};
        int[] messages = {0, 11, 12, 19};
        for (int index = 0; index < messages.length; index++) {
            teach(messages[index], tunes[index]);
            answer("whistle(2, " + messages[index] + ")");
            due("latest(1)", messages[index]);
        }
        masksOfTheLatest(part);
        sentence(part, "Returns the number; NONE if there was none.");
        dueEach("latest(", -1, -1, -1, -1, -1, -1);
        due("whistle(0, 0)", STATE);
        due("ifWhistled(0, 0, 0)", -1);
        dueEach("latest(", -1, -1, -1, -1, -1, -1);
        teach(0, "cd");
        answer("key(1)");
        answer("tell(0)");
        answer("whistle(0, 0)");
        dueEach("latest(", 0, 0, 3, 0, 0, 0);
        answer("undo()");
        dueEach("latest(", -1, -1, -1, -1, -1, -1);
        sentence(part, "Throws `IllegalArgumentException` if what is not 0 to 5");
        range("latest(#)", 0, 5, ARGUMENT);
        aSchool();
        range("latest(#)", 0, 5, ARGUMENT);
    }

    private static void masksOfTheLatest(String part) {
        sentence(part, "2: a mask of the floors on which it was heard;");
        teach(12, "cd");
        answer("set(0, 0)");
        for (int room = 0; room < 6; room++) {
            answer("whistle(" + room + ", 12)");
            due("latest(2)", 1 << room / 2);
        }
        sentence(part, "3: a mask of the rooms that understood it;");
        teach(12, "cd");
        answer("key(1)");
        answer("tell(1)");
        answer("whistle(0, 12)");
        due("latest(3)", 12);
        answer("whistle(1, 12)");
        due("latest(3)", 0);
        answer("whistle(3, 12)");
        due("latest(3)", 53);
        sentence(part, "4: a mask of the masters who caught the room;");
        teach(12, "cd");
        int[] caught = {3, 3, 3, 3, 2, 2};
        answer("set(1, 9)");
        answer("ban(0, 12)");
        answer("ban(1, 12)");
        for (int room = 0; room < 6; room++) {
            answer("whistle(" + room + ", 12)");
            due("latest(4)", caught[room]);
        }
        answer("ban(1, 12)");
        answer("bell()");
        for (int room = 0; room < 6; room++) {
            answer("whistle(" + room + ", 12)");
            due("latest(4)", 1);
        }
        answer("set(0, 0)");
        for (int room = 0; room < 6; room++) {
            answer("whistle(" + room + ", 12)");
            due("latest(4)", room / 2 == 1 ? 1 : 0);
        }
        sentence(part, "5: a mask of the rooms that were raised by it (also those that were raised already)");
        teach(11, "ce");
        teach(12, "cd");
        answer("whistle(0, 12)");
        due("latest(5)", 14);
        answer("whistle(0, 12)");
        due("latest(5)", 14);
        answer("whistle(1, 12)");
        due("latest(5)", 13);
        answer("whistle(1, 11)");
        due("latest(5)", 0);
        due("count(6)", 4);
        answer("key(1)");
        answer("whistle(1, 12)");
        due("latest(5)", 0);
        due("count(6)", 4);
    }

    private static void firstCounts() {
        String part = "Promise 24: count";
        sentence(part, "Returns a number.");
        aSchool();
        dueEach("count(", 0, 2, 3, 9, 6, 2, 1, 2, 3, 4, 24, 2, 2, 6);
        sentence(part, "- `what`: 0: the night;");
        for (int night = 0; night <= 8; night++) {
            due("count(0)", night);
            answer("bell()");
        }
        sentence(part, "1: the key of now;");
        for (int key = 0; key <= 6; key++) {
            due("key(" + key + ")", key == 0 ? 0 : key - 1);
            due("count(1)", key);
        }
        sentence(part, "2: messages with a tune;");
        due("count(2)", 0);
        for (int message = 0; message < 20; message++) {
            teach(message, "c" + "cdefgah".charAt(message % 7) + "cdefgah".charAt(message / 7));
            due("count(2)", message + 1);
        }
        teach(19, "cd");
        due("count(2)", 20);
        answer("forget(19)");
        answer("forget(19)");
        answer("forget(0)");
        due("count(2)", 18);
        sentence(part, "3: nodes of the tree;");
        due("count(3)", 0);
        teach(0, "cd");
        due("count(3)", 2);
        teach(1, "df");
        due("count(3)", 3);
        teach(0, "gah");
        due("count(3)", 4);
    }

    private static void laterCounts() {
        String part = "Promise 24: count";
        sentence(part, "4: the most notes of a tune, 0 without one;");
        due("count(4)", 0);
        for (int size = 2; size <= 8; size++) {
            teach(size, "cdefgahc".substring(0, size));
            due("count(4)", size);
        }
        for (int size = 8; size >= 2; size--) {
            due("count(4)", size);
            answer("forget(" + size + ")");
        }
        due("count(4)", 0);
        teach(19, "cd");
        teach(0, "cdef");
        teach(7, "cde");
        due("count(4)", 4);
        answer("forget(0)");
        due("count(4)", 3);
        sentence(part, "5: a mask of the floors whose lookout is awake;");
        for (int floor = 0; floor < 3; floor++) {
            answer("lookout(" + floor + ", true)");
            due("count(5)", new int[] {1, 3, 7}[floor]);
        }
        sentence(part, "6: rooms that are raised;");
        teach(12, "cd");
        due("count(6)", 0);
        answer("whistle(0, 12)");
        due("count(6)", 3);
        answer("whistle(2, 12)");
        due("count(6)", 6);
        sentence(part, "7: rooms that are silenced;");
        teach(0, "cd");
        answer("ban(1, 0)");
        answer("set(1, 1)");
        for (int room = 0; room < 6; room++) {
            due("count(7)", room);
            answer("whistle(" + room + ", 0)");
        }
        due("count(7)", 6);
        answer("set(1, 2)");
        due("count(7)", 0);
        sentence(part, "8: whistles so far;");
        teach(0, "cd");
        teach(19, "ce");
        for (int many = 0; many < 5; many++) {
            due("count(8)", many);
            answer("whistle(" + many + ", " + (many % 2 == 0 ? 0 : 19) + ")");
        }
        answer("forget(0)");
        due("whistle(0, 0)", STATE);
        due("count(8)", 5);
        countsOfRooms(part);
    }

    private static void countsOfRooms(String part) {
        sentence(part, "9: marks of all rooms now;");
        teach(0, "cd");
        answer("ban(1, 0)");
        answer("ban(2, 0)");
        int[] marks = {1, 2, 4, 6, 8, 10};
        for (int room = 0; room < 6; room++) {
            answer("whistle(" + room + ", 0)");
            due("count(9)", marks[room]);
        }
        times(7, "bell()");
        due("count(9)", 0);
        sentence(part, "10: a mask of the rooms whose key is that of now;");
        due("count(10)", 63);
        answer("key(6)");
        for (int room = 0; room < 6; room++) {
            due("count(10)", (1 << room) - 1);
            answer("tell(" + room + ")");
        }
        due("count(10)", 63);
        sentence(part, "11 and 12: the settings 0 and 1;");
        due("count(11)", 1);
        due("count(12)", 3);
        answer("set(0, 2)");
        answer("set(1, 9)");
        due("count(11)", 2);
        due("count(12)", 9);
        sentence(part, "13: saved states");
        for (int saved = 0; saved <= 9; saved++) {
            due("count(13)", Math.min(6, saved));
            answer("key(0)");
        }
        answer("undo()");
        due("count(13)", 5);
        sentence(part, "Returns the number.");
        dueEach("count(", 0, 0, 0, 0, 0, 0, 0, 0, 0, 0, 63, 1, 3, 0);
        sentence(part, "Throws `IllegalArgumentException` if what is not 0 to 13");
        range("count(#)", 0, 13, ARGUMENT);
    }
}
