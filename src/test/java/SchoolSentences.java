/** The sentences of the document's terms on rooms, floors, keys, masters, reasons and settings, a test for each. */
final class SchoolSentences extends Sentences {
    private static final String ROOMS = "Rooms, floors, keys";
    private static final int[] OWN_FLOORS = {1, 1, 2, 2, 4, 4};

    static void run() {
        rooms();
        keys();
        reach();
        lookouts();
        hearers();
        silencedHearers();
        ownKeys();
        understanding();
        noise();
        raised();
        oldKeys();
        masters();
        floorsOfMasters();
        catching();
        caughtByAnyKey();
        silence();
        bells();
        marksOfAWeek();
        reasonsAgainstWhistles();
        reasonsAgainstTunes();
        settings();
    }

    // ---- rooms, floors, keys

    private static void rooms() {
        sentence(ROOMS, "There are 6 rooms, numbered from 0; the room r is on the floor r divided by 2 (rounded down).");
        range("room(#, 0)", 0, 5, INDEX);
        teach(0, "cd");
        answer("set(0, 0)");
        int[] neighbours = {2, 1, 8, 4, 32, 16};
        for (int room = 0; room < 6; room++) {
            due("whistle(" + room + ", 0)", 1);
            due("latest(2)", OWN_FLOORS[room]);
            due("latest(3)", neighbours[room]);
        }
    }

    private static void keys() {
        sentence(ROOMS, "There is a key of now, at first 0; each room has a key that it was told last, at first 0.");
        due("count(1)", 0);
        for (int room = 0; room < 6; room++) {
            due("room(" + room + ", 0)", 0);
        }
        due("count(10)", 63);
        answer("key(3)");
        answer("tell(2)");
        answer("tell(5)");
        answer("key(6)");
        answer("tell(5)");
        int[] told = {0, 0, 3, 0, 0, 6};
        for (int room = 0; room < 6; room++) {
            due("room(" + room + ", 0)", told[room]);
        }

        sentence(ROOMS, "When the key is changed, it is told to no room by that.");
        answer("key(4)");
        answer("tell(1)");
        answer("key(5)");
        type("k6,k2");
        due("play()", 2);
        due("count(1)", 2);
        for (int room = 0; room < 6; room++) {
            due("room(" + room + ", 0)", room == 1 ? 4 : 0);
        }
        due("count(10)", 0);
    }

    private static void wake(int floors) {
        for (int floor = 0; floor < 3; floor++) {
            answer("lookout(" + floor + ", " + ((floors >> floor & 1) == 1) + ")");
        }
    }

    private static void reach() {
        sentence(ROOMS, "A whistle from a room is heard on its floor and on those that are at most setting 0 floors away;");
        int[][] heard = {{1, 1, 2, 2, 4, 4}, {3, 3, 7, 7, 6, 6}, {7, 7, 7, 7, 7, 7}};
        for (int reach = 0; reach <= 2; reach++) {
            another();
            teach(12, "cd");
            answer("set(0, " + reach + ")");
            for (int room = 0; room < 6; room++) {
                answer("whistle(" + room + ", 12)");
                due("latest(2)", heard[reach][room]);
            }
        }
        another();
        teach(12, "cd");
        answer("whistle(0, 12)");
        due("latest(2)", 3);
    }

    // With three floors only the lookout of the one in the middle can pass a whistle on, and that only with the reach 1.
    private static int heardFrom(int room, int reach, int awake) {
        boolean isEverywhere = reach == 2 || reach == 1 && (room / 2 == 1 || (awake & 2) != 0);
        return reach == 0 ? OWN_FLOORS[room] : isEverywhere ? 7 : room < 2 ? 3 : 6;
    }

    private static void lookouts() {
        sentence(ROOMS, "and if a lookout is awake on a floor on which it is heard, also on all floors that are at most setting 0"
            + " floors away from that, and so on.");
        for (int reach = 0; reach <= 2; reach++) {
            for (int awake = 0; awake < 8; awake++) {
                another();
                teach(12, "cd");
                answer("set(0, " + reach + ")");
                wake(awake);
                for (int room = 0; room < 6; room++) {
                    answer("whistle(" + room + ", 12)");
                    due("latest(2)", heardFrom(room, reach, awake));
                }
            }
        }
        another();
        teach(0, "cd");
        wake(5);
        due("whistle(0, 0)", 3);
        wake(2);
        due("whistle(0, 0)", 5);
        due("whistle(5, 0)", 5);
        answer("lookout(1, false)");
        due("whistle(5, 0)", 3);
    }

    private static void hearers() {
        sentence(ROOMS, "Each room on these floors hears it, but the room that whistles.");
        int[][] hear = {{2, 1, 8, 4, 32, 16}, {14, 13, 59, 55, 44, 28}, {62, 61, 59, 55, 47, 31}};
        for (int reach = 0; reach <= 2; reach++) {
            for (int room = 0; room < 6; room++) {
                another();
                teach(0, "cd");
                answer("set(0, " + reach + ")");
                due("ifWhistled(" + room + ", 0, 0)", hear[reach][room]);
                due("whistle(" + room + ", 0)", Integer.bitCount(hear[reach][room]));
                due("latest(3)", hear[reach][room]);
                for (int other = 0; other < 6; other++) {
                    due("room(" + other + ", 4)", hear[reach][room] >> other & 1);
                    due("room(" + other + ", 5)", 0);
                }
            }
        }
    }

    private static void silencedHearers() {
        sentence(ROOMS, "Each room on these floors hears it,");
        teach(0, "cd");
        teach(12, "ce");
        forbid(1, 0);
        answer("set(1, 1)");
        answer("whistle(1, 0)");
        due("room(1, 3)", 1);
        due("ifWhistled(0, 12, 0)", 14);
        due("whistle(0, 12)", 3);
        due("latest(3)", 14);
        isRaised(1, 2, 3);
        due("room(1, 4)", 1);
    }

    private static void tell(int key, int... rooms) {
        answer("key(" + key + ")");
        for (int room : rooms) {
            answer("tell(" + room + ")");
        }
    }

    private static void ownKeys() {
        sentence(ROOMS, "A room whistles a message by its own key.");
        teach(12, "cd");
        tell(2, 0, 1);
        tell(3, 2);
        due("whistle(0, 12)", 1);
        due("latest(3)", 2);
        due("whistle(2, 12)", 0);
        due("latest(3)", 0);
        due("whistle(3, 12)", 2);
        due("latest(3)", 48);
    }

    private static void understanding() {
        sentence(ROOMS, "A room that hears it understands it, if it is decoded by its own key as a message; it is then the same"
            + " message, as only one key can decode it so.");
        for (int whistler = 0; whistler < 7; whistler++) {
            for (int hearer = 0; hearer < 7; hearer++) {
                another();
                teach(0, "dc");
                teach(1, "cc");
                teach(2, "ec");
                teach(3, "cd");
                answer("set(0, 0)");
                tell(whistler, 4);
                tell(hearer, 5);
                for (int message = 0; message < 4; message++) {
                    due("ifWhistled(4, " + message + ", 1)", whistler == hearer ? 32 : 0);
                    due("whistle(4, " + message + ")", whistler == hearer ? 1 : 0);
                    due("message(" + message + ", 3)", whistler == hearer ? 1 : 0);
                }
            }
        }
    }

    private static void noise() {
        sentence(ROOMS, "Otherwise it is noise for it.");
        teach(0, "cd");
        tell(1, 1, 4);
        due("whistle(0, 0)", 2);
        due("whistle(1, 0)", 0);
        due("whistle(4, 0)", 0);
        int[] understood = {0, 0, 1, 1, 0, 0};
        int[] noises = {1, 1, 2, 2, 0, 1};
        for (int room = 0; room < 6; room++) {
            due("room(" + room + ", 4)", understood[room]);
            due("room(" + room + ", 5)", noises[room]);
        }
    }

    private static void isRaised(int... rooms) {
        for (int room = 0; room < 6; room++) {
            int want = 0;
            for (int raised : rooms) {
                want = raised == room ? 1 : want;
            }
            due("room(" + room + ", 2)", want);
        }
        due("count(6)", rooms.length);
    }

    private static void raised() {
        sentence(ROOMS, "An alarm raises a room that understands it, if the key by which it was whistled is the key of now; it is"
            + " raised until the next bell.");
        teach(11, "ce");
        teach(12, "cd");
        answer("whistle(0, 11)");
        isRaised();
        tell(4, 0, 1, 3);
        answer("whistle(0, 12)");
        isRaised(1, 3);
        answer("whistle(1, 12)");
        isRaised(0, 1, 3);
        answer("whistle(2, 12)");
        isRaised(0, 1, 3);
        answer("key(0)");
        answer("tell(3)");
        answer("forget(12)");
        answer("set(0, 0)");
        answer("whistle(0, 11)");
        isRaised(0, 1, 3);
        answer("bell()");
        isRaised();
        teach(12, "cd");
        answer("whistle(4, 12)");
        isRaised(5);
    }

    private static void oldKeys() {
        sentence(ROOMS, "(So a tune of an old key alarms no one.)");
        teach(12, "cd");
        answer("key(1)");
        due("whistle(0, 12)", 3);
        due("latest(5)", 0);
        isRaised();
        answer("tell(1)");
        due("whistle(2, 12)", 4);
        due("latest(5)", 0);
        isRaised();
        answer("key(0)");
        due("whistle(1, 12)", 0);
        isRaised();
        due("whistle(0, 12)", 2);
        due("latest(5)", 12);
        isRaised(2, 3);
    }

    // ---- masters

    private static void masters() {
        sentence("Masters", "There are 3 masters, 0 to 2; each forbids some messages, at first none.");
        range("ban(#, 0)", 0, 2, INDEX);
        for (int message = 0; message < 20; message++) {
            due("message(" + message + ", 1)", 0);
        }
        answer("ban(0, 5)");
        answer("ban(2, 5)");
        answer("ban(1, 6)");
        answer("ban(1, 19)");
        for (int message = 0; message < 20; message++) {
            due("message(" + message + ", 1)", message == 5 ? 5 : message == 6 || message == 19 ? 2 : 0);
        }
    }

    private static void floorsOfMasters() {
        sentence("Masters", "In the night n the master m is on the floor (m and n, together) modulo 3.");
        int[][] floors = {{0, 1, 2, 0, 1, 2, 0, 1, 2}, {1, 2, 0, 1, 2, 0, 1, 2, 0}, {2, 0, 1, 2, 0, 1, 2, 0, 1}};
        for (int master = 0; master < 3; master++) {
            another();
            teach(0, "cd");
            answer("ban(" + master + ", 0)");
            answer("set(0, 0)");
            for (int night = 0; night < floors[master].length; night++) {
                for (int room = 0; room < 6; room++) {
                    due("ifWhistled(" + room + ", 0, 2)", floors[master][night] == room / 2 ? 1 << master : 0);
                }
                answer("bell()");
            }
        }
    }

    private static void forbid(int masters, int message) {
        for (int master = 0; master < 3; master++) {
            if ((masters >> master & 1) == 1) {
                answer("ban(" + master + ", " + message + ")");
            }
        }
    }

    private static void catching() {
        sentence("Masters", "A master on a floor where a whistle is heard, who forbids its message, catches the room, whatever the key:");
        int[] heard = {1, 3, 7};
        for (int reach = 0; reach <= 2; reach++) {
            for (int masters = 0; masters < 8; masters++) {
                another();
                teach(4, "cd");
                teach(5, "ce");
                forbid(masters, 4);
                answer("set(0, " + reach + ")");
                due("ifWhistled(0, 4, 2)", heard[reach] & masters);
                due("ifWhistled(0, 5, 2)", 0);
                answer("whistle(0, 4)");
                due("latest(4)", heard[reach] & masters);
                due("room(0, 1)", Integer.bitCount(heard[reach] & masters));
                due("count(9)", Integer.bitCount(heard[reach] & masters));
            }
        }

        sentence("Masters", "the room gets a mark for each such master.");
        teach(4, "cd");
        forbid(7, 4);
        answer("set(1, 9)");
        int[] marks = {2, 4, 7, 9};
        int[] rooms = {0, 0, 2, 5};
        for (int index = 0; index < rooms.length; index++) {
            answer("whistle(" + rooms[index] + ", 4)");
            due("count(9)", marks[index]);
        }
        dueRooms(1, 4, 0, 3, 0, 0, 2);
        answer("lookout(1, true)");
        answer("whistle(0, 4)");
        dueRooms(1, 7, 0, 3, 0, 0, 2);
    }

    private static void dueRooms(int what, int... wants) {
        for (int room = 0; room < wants.length; room++) {
            due("room(" + room + ", " + what + ")", wants[room]);
        }
    }

    private static void caughtByAnyKey() {
        sentence("Masters", "catches the room, whatever the key");
        for (int key = 0; key < 7; key++) {
            for (int now = 0; now < 7; now++) {
                another();
                teach(13, "cd");
                tell(key, 0);
                answer("key(" + now + ")");
                forbid(3, 13);
                due("whistle(0, 13)", key == 0 ? 3 : 0);
                due("latest(4)", 3);
                due("room(0, 1)", 2);
            }
        }
    }

    private static void silence() {
        sentence("Masters", "A room with setting 1 marks or more is silenced: it cannot whistle.");
        for (int limit = 1; limit <= 9; limit++) {
            another();
            teach(0, "cd");
            teach(1, "ce");
            forbid(1, 0);
            answer("set(0, 0)");
            answer("set(1, " + limit + ")");
            for (int marks = 0; marks < limit; marks++) {
                due("room(0, 3)", 0);
                due("count(7)", 0);
                due("whistle(0, 0)", 1);
            }
            due("room(0, 1)", limit);
            due("room(0, 3)", 1);
            due("count(7)", 1);
            refused("whistle(0, 1)", STATE);
            due("whistle(1, 1)", 1);
        }
        another();
        teach(0, "cd");
        forbid(7, 0);
        answer("set(1, 4)");
        answer("whistle(2, 0)");
        due("room(2, 3)", 0);
        answer("whistle(2, 0)");
        due("room(2, 1)", 6);
        due("room(2, 3)", 1);
        answer("set(1, 7)");
        due("room(2, 3)", 0);
        answer("set(1, 6)");
        due("room(2, 3)", 1);
        refused("whistle(2, 0)", STATE);
    }

    private static void bells() {
        sentence("Masters", "When the bell rings, the night is 1 more (from 0 on),");
        due("count(0)", 0);
        for (int night = 1; night <= 15; night++) {
            due("bell()", night);
            due("count(0)", night);
        }
        type("!,!");
        due("play()", 2);
        due("count(0)", 17);

        sentence("Masters", "all rooms are quiet again (not raised);");
        for (int way = 0; way < 2; way++) {
            another();
            teach(12, "cd");
            answer("set(0, 2)");
            answer("whistle(0, 12)");
            answer("whistle(1, 12)");
            isRaised(0, 1, 2, 3, 4, 5);
            type("!");
            answer(way == 0 ? "bell()" : "play()");
            isRaised();
        }
    }

    private static void markAllRooms() {
        answer("set(1, 9)");
        forbid(7, 0);
        for (int room = 0; room < 6; room++) {
            answer("whistle(" + room + ", 0)");
        }
        dueRooms(1, 2, 2, 3, 3, 2, 2);
    }

    private static void marksOfAWeek() {
        sentence("Masters", "and if the night can be divided by 7, all marks are gone.");
        for (int way = 0; way < 2; way++) {
            another();
            teach(0, "cd");
            markAllRooms();
            answer("set(0, 0)");
            answer("set(1, 1)");
            for (int night = 1; night <= 22; night++) {
                type("!");
                answer(way == 0 ? "bell()" : "play()");
                due("count(0)", night);
                int later = night > 7 && night < 14 ? 1 : 0;
                due("count(9)", night < 7 ? 14 : later);
                due("count(7)", night < 7 ? 6 : later);
                if (night == 7) {
                    dueRooms(1, 0, 0, 0, 0, 0, 0);
                    answer("whistle(3, 0)");
                    due("room(3, 1)", 1);
                }
            }
        }
    }

    // ---- reasons, settings

    private static void reasonsAgainstWhistles() {
        sentence("Reasons", "A message cannot be whistled for the first of these reasons: 1: the room is silenced; 2: the message has"
            + " no tune.");
        teach(0, "cd");
        forbid(1, 0);
        answer("set(1, 1)");
        due("whyNot(0, 0)", 0);
        due("whyNot(0, 1)", 2);
        answer("whistle(0, 0)");
        due("whyNot(0, 0)", 1);
        due("whyNot(0, 1)", 1);
        due("whyNot(1, 0)", 0);
        due("whyNot(1, 1)", 2);
        refused("whistle(0, 0)", STATE);
        refused("whistle(0, 1)", STATE);
        refused("whistle(1, 1)", STATE);
        due("whistle(1, 0)", 3);
        answer("set(1, 2)");
        stops("w0:1", 2);
        answer("set(1, 1)");
        stops("w0:0", 1);
        stops("w0:1", 1);
    }

    private static void stops(String text, int reason) {
        type(text);
        due("play()", 0);
        due("stopped(0)", 0);
        due("stopped(1)", reason);
    }

    private static void reasonsAgainstTunes() {
        sentence("Reasons", "A tune cannot be taught for the first of these reasons: 3: it has fewer than 2 or more than 8 notes; 4:"
            + " another message has a tune of this shape.");
        teach(0, "cd");
        teach(1, "cdefgahc");
        stops("2=c", 3);
        stops("2=de", 4);
        stops("2=gahcdefg", 4);
        stops("2=cdefgahcd", 3);
        stops("2=cdefgahc(c)2", 3);
        stops("1=cdefgahcd", 3);
        stops("1=gah(cd)3", 3);
        type("0=fg,1=de(fg)2");
        due("play()", 2);
        due("stopped(1)", -1);
    }

    private static void settings() {
        sentence("Settings", "0: 0 to 2, at first 1;");
        due("count(11)", 1);
        range("set(0, #)", 0, 2, ARGUMENT);
        sentence("Settings", "1: 1 to 9, at first 3.");
        due("count(12)", 3);
        range("set(1, #)", 1, 9, ARGUMENT);
    }
}
