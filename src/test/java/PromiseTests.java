import java.util.function.LongSupplier;

/** For each promise of the document the ordinary answers, the edges and the refusals, by hand. */
public final class PromiseTests {
    private static final String INDEX = "IndexOutOfBoundsException";
    private static final String ARGUMENT = "IllegalArgumentException";
    private static final String STATE = "IllegalStateException";
    private static int wrong = 0;
    private static int promise = 0;
    private static WhistleTunes x;

    private static void fresh(int number) {
        promise = number;
        x = new WhistleTunes();
    }

    private static String answer(LongSupplier call) {
        try {
            return Long.toString(call.getAsLong());
        } catch (RuntimeException e) {
            return e.getClass().getSimpleName();
        }
    }

    private static void due(String what, String want, LongSupplier call) {
        String got = answer(call);
        if (!got.equals(want)) {
            wrong++;
            System.out.println("promise " + promise + ": " + what + " answered " + got + ", due is " + want);
        }
    }

    private static void due(String what, long want, LongSupplier call) {
        due(what, Long.toString(want), call);
    }

    /** A refused call changes nothing: neither what the digest tells nor how undo goes on. */
    private static void refused(String what, String exception, LongSupplier call) {
        long before = x.digest();
        due(what, exception, call);
        due(what + " refused, digest()", before, x::digest);
    }

    /** The call saves one state, and undo brings back what the digest told before it, but for the buffer. */
    private static void undoable(String what, long want, LongSupplier call) {
        int saved = x.count(13);
        long before = withoutText();
        due(what, want, call);
        due(what + ", saved states", Math.min(6, saved + 1), () -> x.count(13));
        int left = Math.min(6, saved + 1) - 1;
        due(what + ", undo()", left, () -> x.undo());
        if (saved < 6) {
            due(what + ", then undone", before, PromiseTests::withoutText);
        }
        retype();
        due(what + ", again", want, call);
    }

    private static String typed = "";

    private static long withoutText() {
        x.clearBuffer();
        long digest = x.digest();
        retype();
        return digest;
    }

    private static void retype() {
        x.clearBuffer();
        for (char c : typed.toCharArray()) {
            x.append(c);
        }
    }

    private static void type(String text) {
        typed = text;
        retype();
    }

    private static void clear() {
        type("");
    }

    private static void teach(int message, String text) {
        type(text);
        due("teach(" + message + ") of " + text, message >= 0 ? 1 : 0, () -> x.teach(message) > 0 ? 1 : 0);
        typed = "";
    }

    private static void tune(int message, int... notes) {
        for (int place = 0; place < 8; place++) {
            int p = place;
            due("note(" + message + ", " + p + ")", p < notes.length ? notes[p] : -1, () -> x.note(message, p));
        }
    }

    private static void aNewObject() {
        fresh(1);
        int[] counts = {0, 0, 0, 0, 0, 0, 0, 0, 0, 0, 63, 1, 3, 0};
        for (int what = 0; what < 14; what++) {
            int w = what;
            due("count(" + w + ")", counts[w], () -> x.count(w));
        }
        due("restore()", STATE, () -> x.restore());
        due("undo()", STATE, () -> x.undo());
        due("clearBuffer()", 0, () -> x.clearBuffer());
        due("latest(0)", -1, () -> x.latest(0));
        due("stopped(0)", -1, () -> x.stopped(0));
        WhistleTunes other = new WhistleTunes();
        x.bell();
        due("another object's night", 0, () -> other.count(0));
    }

    private static void teaching() {
        fresh(2);
        type("cdefgaha");
        undoable("teach(19)", 8, () -> x.teach(19));
        tune(19, 0, 1, 2, 3, 4, 5, 6, 5);
        due("the buffer", 0, () -> x.clearBuffer());
        type("((cd)2e)2");
        refused("teach(0) of ten notes", STATE, () -> x.teach(0));
        type("(((h)2)2)2");
        undoable("teach(0) of eight notes", 8, () -> x.teach(0));
        tune(0, 6, 6, 6, 6, 6, 6, 6, 6);
        type("(((h)2)2)3");
        refused("teach(0) of twelve notes", STATE, () -> x.teach(0));
        type("ccccccccc");
        refused("teach(0) of nine notes", STATE, () -> x.teach(0));
        type("c");
        refused("teach(0) of one note", STATE, () -> x.teach(0));
        type("a(hc)2d");
        undoable("teach(1)", 6, () -> x.teach(1));
        tune(1, 5, 6, 0, 6, 0, 1);
        type("c(de)2f");
        refused("teach(2) of a taken shape", STATE, () -> x.teach(2));
        undoable("teach(1) of its own shape", 6, () -> x.teach(1));
        tune(1, 0, 1, 2, 1, 2, 3);
        type("gg");
        undoable("teach(1) of a shorter tune", 2, () -> x.teach(1));
        tune(1, 4, 4);
        type("c(de)2f");
        undoable("teach(2) of a shape that is free again", 6, () -> x.teach(2));
        for (String bad : new String[] {"", "(", "(c", "(c)", "(c)2)", "cb", "c,d", "0=cd", "((((c)2)2)2)2", "(cd)1"}) {
            type(bad);
            refused("teach(3) of " + bad, ARGUMENT, () -> x.teach(3));
            refused("teach(20) of " + bad, INDEX, () -> x.teach(20));
        }
        type("gg");
        refused("teach(-1)", INDEX, () -> x.teach(-1));
        refused("teach(20) of a taken shape", INDEX, () -> x.teach(20));
    }

    private static void forgetting() {
        fresh(3);
        teach(7, "cde");
        undoable("forget(7)", 3, () -> x.forget(7));
        tune(7);
        undoable("forget(7) without a tune", 0, () -> x.forget(7));
        due("nodes", 0, () -> x.count(3));
        teach(8, "def");
        refused("forget(-1)", INDEX, () -> x.forget(-1));
        refused("forget(20)", INDEX, () -> x.forget(20));
        x.whistle(0, 8);
        x.forget(8);
        due("whistles of a forgotten message", 1, () -> x.message(8, 2));
    }

    private static void changingKeys() {
        fresh(4);
        undoable("key(6)", 0, () -> x.key(6));
        undoable("key(0)", 6, () -> x.key(0));
        undoable("key(6)", 0, () -> x.key(6));
        due("rooms that were told", 0, () -> x.count(10));
        refused("key(-1)", ARGUMENT, () -> x.key(-1));
        refused("key(7)", ARGUMENT, () -> x.key(7));
        fresh(5);
        x.key(4);
        undoable("tell(5)", 0, () -> x.tell(5));
        undoable("tell(5)", 4, () -> x.tell(5));
        due("room(5, 0)", 4, () -> x.room(5, 0));
        due("room(4, 0)", 0, () -> x.room(4, 0));
        due("count(10)", 32, () -> x.count(10));
        refused("tell(-1)", INDEX, () -> x.tell(-1));
        refused("tell(6)", INDEX, () -> x.tell(6));
    }

    private static void lookoutsAndMasters() {
        fresh(6);
        undoable("lookout(2, true)", 1, () -> x.lookout(2, true));
        undoable("lookout(2, true)", 1, () -> x.lookout(2, true));
        undoable("lookout(0, true)", 2, () -> x.lookout(0, true));
        due("count(5)", 5, () -> x.count(5));
        undoable("lookout(2, false)", 1, () -> x.lookout(2, false));
        undoable("lookout(1, false)", 1, () -> x.lookout(1, false));
        refused("lookout(-1, true)", INDEX, () -> x.lookout(-1, true));
        refused("lookout(3, true)", INDEX, () -> x.lookout(3, true));
        fresh(7);
        undoable("ban(2, 19)", 1, () -> x.ban(2, 19));
        due("message(19, 1)", 4, () -> x.message(19, 1));
        x.ban(0, 19);
        due("message(19, 1)", 5, () -> x.message(19, 1));
        due("ban(2, 19)", 0, () -> x.ban(2, 19));
        due("message(19, 1)", 1, () -> x.message(19, 1));
        refused("ban(3, 0)", INDEX, () -> x.ban(3, 0));
        refused("ban(-1, 0)", INDEX, () -> x.ban(-1, 0));
        refused("ban(0, 20)", INDEX, () -> x.ban(0, 20));
        refused("ban(0, -1)", INDEX, () -> x.ban(0, -1));
    }

    private static void bells() {
        fresh(8);
        teach(12, "cd");
        x.ban(0, 12);
        due("whistle(0, 12)", 3, () -> x.whistle(0, 12));
        due("raised", 3, () -> x.count(6));
        undoable("bell()", 1, () -> x.bell());
        due("raised after the bell", 0, () -> x.count(6));
        due("marks after the bell", 1, () -> x.count(9));
        for (int night = 2; night <= 6; night++) {
            x.bell();
        }
        due("marks in the night 6", 1, () -> x.room(0, 1));
        undoable("bell()", 7, () -> x.bell());
        due("marks in the night 7", 0, () -> x.room(0, 1));
        x.ban(1, 12);
        x.whistle(0, 12);
        due("marks of the night 7", 1, () -> x.count(9));
        x.bell();
        due("marks in the night 8", 1, () -> x.count(9));
    }

    private static void settings() {
        fresh(9);
        undoable("set(0, 2)", 1, () -> x.set(0, 2));
        undoable("set(0, 0)", 2, () -> x.set(0, 0));
        undoable("set(1, 9)", 3, () -> x.set(1, 9));
        undoable("set(1, 1)", 9, () -> x.set(1, 1));
        undoable("set(1, 1)", 1, () -> x.set(1, 1));
        due("count(11)", 0, () -> x.count(11));
        due("count(12)", 1, () -> x.count(12));
        refused("set(0, -1)", ARGUMENT, () -> x.set(0, -1));
        refused("set(0, 3)", ARGUMENT, () -> x.set(0, 3));
        refused("set(1, 0)", ARGUMENT, () -> x.set(1, 0));
        refused("set(1, 10)", ARGUMENT, () -> x.set(1, 10));
        refused("set(-1, 50)", INDEX, () -> x.set(-1, 50));
        refused("set(2, 50)", INDEX, () -> x.set(2, 50));
    }

    private static void whatWasHeard(int floors, int understood, int caught, int raised) {
        due("latest(2)", floors, () -> x.latest(2));
        due("latest(3)", understood, () -> x.latest(3));
        due("latest(4)", caught, () -> x.latest(4));
        due("latest(5)", raised, () -> x.latest(5));
    }

    private static void whistles() {
        fresh(10);
        teach(11, "ce");
        teach(12, "cd");
        undoable("whistle(0, 11)", 3, () -> x.whistle(0, 11));
        whatWasHeard(3, 14, 0, 0);
        x.set(0, 0);
        due("whistle(0, 12)", 1, () -> x.whistle(0, 12));
        whatWasHeard(1, 2, 0, 2);
        x.lookout(0, true);
        due("whistle(0, 12) with reach 0", 1, () -> x.whistle(0, 12));
        x.set(0, 2);
        due("whistle(0, 12) with reach 2", 5, () -> x.whistle(0, 12));
        x.set(0, 1);
        due("whistle(5, 12) with a lookout that does not hear", 3, () -> x.whistle(5, 12));
        whatWasHeard(6, 28, 0, 28);
        x.lookout(1, true);
        due("whistle(5, 12) passed on", 5, () -> x.whistle(5, 12));
        whatWasHeard(7, 31, 0, 31);
        x.key(3);
        due("whistle(5, 12) by an old key", 5, () -> x.whistle(5, 12));
        whatWasHeard(7, 31, 0, 0);
        due("raised before", 6, () -> x.count(6));
        x.tell(5);
        x.tell(2);
        due("whistle(5, 12) by the new key", 1, () -> x.whistle(5, 12));
        whatWasHeard(7, 4, 0, 4);
        due("noise of room 0", 1, () -> x.room(0, 5));
        due("noise of the whistler", 0, () -> x.room(5, 5));
        refused("whistle(0, 0) without a tune", STATE, () -> x.whistle(0, 0));
        refused("whistle(6, 0)", INDEX, () -> x.whistle(6, 0));
        refused("whistle(-1, 12)", INDEX, () -> x.whistle(-1, 12));
        refused("whistle(0, 20)", INDEX, () -> x.whistle(0, 20));
        refused("whistle(0, -1)", INDEX, () -> x.whistle(0, -1));
    }

    private static void catching() {
        fresh(10);
        teach(3, "hc");
        x.ban(0, 3);
        x.ban(1, 3);
        x.ban(2, 4);
        x.key(5);
        x.tell(0);
        due("whistle(0, 3)", 0, () -> x.whistle(0, 3));
        whatWasHeard(3, 0, 3, 0);
        due("two marks", 2, () -> x.room(0, 1));
        due("not silenced", 0, () -> x.room(0, 3));
        x.bell();
        due("whistle(0, 3) in the night 1", 0, () -> x.whistle(0, 3));
        whatWasHeard(3, 0, 1, 0);
        due("three marks", 3, () -> x.room(0, 1));
        due("silenced", 1, () -> x.room(0, 3));
        refused("whistle(0, 3) of a silenced room", STATE, () -> x.whistle(0, 3));
        x.set(1, 4);
        due("silenced with a higher limit", 0, () -> x.room(0, 3));
        due("whistle(4, 3) in the night 1", 3, () -> x.whistle(4, 3));
        whatWasHeard(6, 44, 3, 0);
    }

    private static void buffer() {
        fresh(11);
        refused("append(32)", ARGUMENT, () -> x.append(32));
        refused("append(127)", ARGUMENT, () -> x.append(127));
        refused("append(-1)", ARGUMENT, () -> x.append(-1));
        refused("append(65635)", ARGUMENT, () -> x.append(65536 + 99));
        due("append(33)", 1, () -> x.append(33));
        due("append(126)", 2, () -> x.append(126));
        for (int length = 3; length <= 60; length++) {
            due("append(99)", length, () -> x.append(99));
        }
        refused("append(99) of a full buffer", STATE, () -> x.append(99));
        refused("append(127) of a full buffer", ARGUMENT, () -> x.append(127));
        due("saved states", 0, () -> x.count(13));
        promise = 12;
        due("clearBuffer()", 60, () -> x.clearBuffer());
        due("clearBuffer()", 0, () -> x.clearBuffer());
        due("append(99)", 1, () -> x.append(99));
        due("saved states", 0, () -> x.count(13));
    }

    private static void eveningErrors(String text, int want) {
        fresh(13);
        type(text);
        due("firstError() of " + text, want, () -> x.firstError());
    }

    private static void tuneErrors(String text, int want) {
        fresh(14);
        type(text);
        due("tuneError() of " + text, want, () -> x.tuneError());
    }

    private static void errors() {
        String[] good = {"", "0=c", "19=h", "10=(", "w5:19,t5,k6,!", "w0:1", "w0:1,!", "w0:0", "1", "1=c,", "9=(((",
            "0=(c(d(e)2)3)2g,!", "0=ccccccccc,1=c", "0=(((c)2)2)2(((c)2)2)2", "12=c(d)2"};
        for (String text : good) {
            eveningErrors(text, text.length());
        }
        String[] bad = {"a", "20", "1:", "00", "01", "1==", "1=,", "2=c)", "2=()", "2=(c)1", "2=(c)4", "2=(c)0", "2=(c)c", "2=(c)(",
            "2=(((((", "2=b", "2=c2", "2=(c,", "w6", "ww", "w0=", "w0:x", "w0:20", "w0:110", "w0:01", "t6",
            "t00", "tt", "k7", "kk", "k00", "!!", ",", "!,,", "!,x", "w5:19,t5,k6,!!", "0=c!", "0=cw", "0=c0", "W", "!,W", "(", "#"};
        for (String text : bad) {
            int want = text.equals("2=(((((") ? 5 : text.length() - 1;
            eveningErrors(text, want);
        }
        eveningErrors("!!,,c", 1);
        for (String text : new String[] {"", "c", "(", "(((", "(((c)2)3)2", "(c(d)2(e)3)2(f)2", "cccccccccc", "(c)", "cdefgah"}) {
            tuneErrors(text, text.length());
        }
        for (String text : new String[] {")", "c)", "()", "((((", "(c)1", "(c)4", "(c)22", "c,", "b", "2", "0", "c=", "(c)c", "C"}) {
            tuneErrors(text, text.length() - 1);
        }
        tuneErrors("cb)(4", 1);
        tuneErrors("0=c", 0);
    }

    private static void evenings() {
        fresh(15);
        type("12=cd,k4,t0,t1,w0:12,!");
        undoable("play()", 6, () -> x.play());
        due("the buffer", 0, () -> x.clearBuffer());
        tune(12, 0, 1);
        due("night", 1, () -> x.count(0));
        due("key", 4, () -> x.count(1));
        due("rooms of the key", 3, () -> x.count(10));
        due("stopped(0)", -1, () -> x.stopped(0));
        due("stopped(1)", -1, () -> x.stopped(1));
        whatWasHeard(3, 2, 0, 2);
        due("raised after the bell", 0, () -> x.count(6));
        type("!,w0:3,!");
        undoable("play() stopped without a tune", 1, () -> x.play());
        due("stopped(0)", 1, () -> x.stopped(0));
        due("stopped(1)", 2, () -> x.stopped(1));
        due("night", 2, () -> x.count(0));
        due("the buffer", 0, () -> x.clearBuffer());
        type("3=(((c)3)3)3");
        undoable("play() stopped at once", 0, () -> x.play());
        due("stopped(0)", 0, () -> x.stopped(0));
        due("stopped(1)", 3, () -> x.stopped(1));
        type("12=cde,12=de,0=gah,1=ga");
        undoable("play() stopped by a shape", 3, () -> x.play());
        due("stopped(0)", 3, () -> x.stopped(0));
        due("stopped(1)", 4, () -> x.stopped(1));
        x.ban(0, 0);
        x.ban(1, 0);
        x.ban(2, 0);
        x.set(1, 2);
        type("w2:0,!,w2:0");
        due("play() stopped by silence", 2, () -> x.play());
        due("stopped(0)", 2, () -> x.stopped(0));
        due("stopped(1)", 1, () -> x.stopped(1));
        due("saved states", 6, () -> x.count(13));
        type("w2:1");
        due("play(), silence comes first", 0, () -> x.play());
        due("stopped(1)", 1, () -> x.stopped(1));
        for (String bad : new String[] {"", "!,", "1", "0=", "0=(c", "0=(c)", "w", "w0", "w0:", "t", "k", "!!", "cd"}) {
            type(bad);
            refused("play() of " + bad, ARGUMENT, () -> x.play());
            due("the buffer of " + bad, bad.length(), () -> x.clearBuffer());
        }
        promise = 16;
        refused("stopped(2)", ARGUMENT, () -> x.stopped(2));
        refused("stopped(-1)", ARGUMENT, () -> x.stopped(-1));
        x.undo();
        due("stopped(0) after undo", 2, () -> x.stopped(0));
        type("!");
        due("play()", 1, () -> x.play());
        due("stopped(0) without a stop", -1, () -> x.stopped(0));
        due("stopped(1) without a stop", -1, () -> x.stopped(1));
    }

    private static void goingBack() {
        fresh(17);
        due("undo() without a state", STATE, () -> x.undo());
        for (int night = 1; night <= 8; night++) {
            x.bell();
        }
        type("cd");
        for (int left = 5; left >= 0; left--) {
            int due = left;
            due("undo()", due, () -> x.undo());
            due("night", due + 2, () -> x.count(0));
        }
        refused("undo() of the oldest", STATE, () -> x.undo());
        due("the buffer", 2, () -> x.clearBuffer());
        fresh(18);
        refused("restore() without a snapshot", STATE, () -> x.restore());
        x.bell();
        teach(5, "cdc");
        due("keep()", 1, () -> x.keep());
        due("saved states after keep()", 2, () -> x.count(13));
        x.undo();
        x.undo();
        promise = 19;
        x.key(3);
        type("gh");
        undoable("restore()", 1, () -> x.restore());
        due("the buffer", 2, () -> x.clearBuffer());
        tune(5, 0, 1, 0);
        due("key", 0, () -> x.count(1));
        due("nodes", 3, () -> x.count(3));
        x.whistle(0, 5);
        type("w0:9");
        x.play();
        due("latest(0)", 0, () -> x.latest(0));
        due("stopped(1)", 2, () -> x.stopped(1));
        due("restore() again", 1, () -> x.restore());
        due("latest(0)", -1, () -> x.latest(0));
        due("stopped(1)", -1, () -> x.stopped(1));
        due("room(1, 4)", 0, () -> x.room(1, 4));
        x.bell();
        promise = 18;
        due("keep() in place of the one before", 2, () -> x.keep());
        x.bell();
        due("restore()", 2, () -> x.restore());
    }

    private static void looks() {
        fresh(20);
        teach(0, "cdefga");
        teach(12, "cdg");
        x.key(2);
        x.tell(3);
        x.ban(1, 12);
        x.whistle(0, 12);
        x.whistle(3, 12);
        due("message(12, 0)", 3, () -> x.message(12, 0));
        due("message(12, 1)", 2, () -> x.message(12, 1));
        due("message(12, 2)", 2, () -> x.message(12, 2));
        due("message(12, 3)", 2, () -> x.message(12, 3));
        due("message(0, 0)", 6, () -> x.message(0, 0));
        due("message(1, 0)", 0, () -> x.message(1, 0));
        refused("message(12, 4)", ARGUMENT, () -> x.message(12, 4));
        refused("message(12, -1)", ARGUMENT, () -> x.message(12, -1));
        refused("message(20, 4)", INDEX, () -> x.message(20, 4));
        refused("message(-1, 0)", INDEX, () -> x.message(-1, 0));
        promise = 21;
        tune(0, 0, 1, 2, 3, 4, 5);
        refused("note(0, 8)", ARGUMENT, () -> x.note(0, 8));
        refused("note(0, -1)", ARGUMENT, () -> x.note(0, -1));
        refused("note(20, 8)", INDEX, () -> x.note(20, 8));
        refused("note(-1, 0)", INDEX, () -> x.note(-1, 0));
        promise = 22;
        int[][] rooms = {{0, 1, 0, 0, 0, 1}, {0, 0, 0, 0, 1, 1}, {0, 0, 0, 0, 1, 1}, {2, 1, 0, 0, 0, 1}, {0, 0, 0, 0, 0, 1}};
        for (int room = 0; room < rooms.length; room++) {
            for (int what = 0; what < 6; what++) {
                int r = room;
                int w = what;
                due("room(" + r + ", " + w + ")", rooms[r][w], () -> x.room(r, w));
            }
        }
        refused("room(0, 6)", ARGUMENT, () -> x.room(0, 6));
        refused("room(0, -1)", ARGUMENT, () -> x.room(0, -1));
        refused("room(6, 6)", INDEX, () -> x.room(6, 6));
        refused("room(-1, 0)", INDEX, () -> x.room(-1, 0));
        promise = 23;
        due("latest(0)", 3, () -> x.latest(0));
        due("latest(1)", 12, () -> x.latest(1));
        whatWasHeard(7, 0, 2, 0);
        refused("latest(6)", ARGUMENT, () -> x.latest(6));
        refused("latest(-1)", ARGUMENT, () -> x.latest(-1));
    }

    private static void counts() {
        fresh(24);
        teach(0, "cdefga");
        teach(12, "efha");
        teach(13, "aha");
        x.key(2);
        x.tell(3);
        x.tell(4);
        x.lookout(1, true);
        x.ban(1, 12);
        x.ban(2, 12);
        x.set(1, 2);
        x.set(0, 2);
        x.whistle(3, 12);
        x.whistle(0, 13);
        x.whistle(5, 12);
        x.set(1, 1);
        x.set(0, 1);
        int[] counts = {0, 2, 3, 9, 6, 2, 1, 2, 3, 4, 24, 1, 1, 6};
        for (int what = 0; what < counts.length; what++) {
            int w = what;
            due("count(" + w + ")", counts[w], () -> x.count(w));
        }
        refused("count(14)", ARGUMENT, () -> x.count(14));
        refused("count(-1)", ARGUMENT, () -> x.count(-1));
        x.forget(0);
        due("count(3) without a tune", 5, () -> x.count(3));
        due("count(4) without a tune", 4, () -> x.count(4));
    }

    private static void decodes(String text, int key, int want) {
        type(text);
        due("decode(" + key + ", 0) of " + text, want, () -> x.decode(key, 0));
        due("decode(" + key + ", 1) of " + text, want, () -> x.decode(key, 1));
    }

    private static void decoding() {
        fresh(25);
        teach(3, "efe");
        teach(4, "efef");
        teach(19, "gg");
        decodes("efe", 0, 3);
        decodes("cdc", 5, 3);
        decodes("cdc", 0, -1);
        decodes("(fg)2", 1, 4);
        decodes("(h)2", 2, 19);
        decodes("hh", 0, -1);
        decodes("ef", 0, -1);
        decodes("efefe", 0, -1);
        decodes("eff", 0, -1);
        decodes("e", 0, -1);
        decodes("(((ef)2)2)3", 0, -1);
        decodes("((gg)2)2g", 0, -1);
        for (String bad : new String[] {"", "(", "(ef", "(ef)", "efb", "3=efe"}) {
            type(bad);
            refused("decode(0, 0) of " + bad, ARGUMENT, () -> x.decode(0, 0));
            refused("decode(0, 1) of " + bad, ARGUMENT, () -> x.decode(0, 1));
            refused("keyOf() of " + bad, ARGUMENT, () -> x.keyOf());
        }
        type("efe");
        refused("decode(-1, 0)", ARGUMENT, () -> x.decode(-1, 0));
        refused("decode(7, 1)", ARGUMENT, () -> x.decode(7, 1));
        refused("decode(0, -1)", ARGUMENT, () -> x.decode(0, -1));
        refused("decode(0, 2)", ARGUMENT, () -> x.decode(0, 2));
        promise = 26;
        String[] tunes = {"efe", "gag", "cdc", "ded", "gg", "cc", "efg", "e", "(((e)3)3)3", "efef"};
        int[] keys = {0, 2, 5, 6, 0, 3, -1, -1, -1, 0};
        for (int index = 0; index < keys.length; index++) {
            type(tunes[index]);
            due("keyOf() of " + tunes[index], keys[index], () -> x.keyOf());
        }
        due("the buffer", 4, () -> x.clearBuffer());
        clear();
        x.forget(4);
        decodes("efef", 0, -1);
    }

    private static void foreseen(int room, int message, int heard, int understood, int caught, int raised) {
        int[] masks = {heard, understood, caught, raised};
        for (int what = 0; what < 4; what++) {
            int w = what;
            due("ifWhistled(" + room + ", " + message + ", " + w + ")", masks[w], () -> x.ifWhistled(room, message, w));
        }
    }

    private static void whatWouldBe() {
        fresh(27);
        teach(11, "cd");
        teach(12, "ce");
        x.key(1);
        x.tell(0);
        x.tell(2);
        x.ban(0, 12);
        x.set(1, 1);
        due("whyNot(0, 12)", 0, () -> x.whyNot(0, 12));
        due("whyNot(0, 0)", 2, () -> x.whyNot(0, 0));
        promise = 28;
        foreseen(0, 12, 14, 4, 1, 4);
        foreseen(0, 11, 14, 4, 0, 0);
        foreseen(1, 12, 13, 8, 1, 0);
        foreseen(5, 12, 28, 24, 0, 0);
        foreseen(0, 0, -1, -1, -1, -1);
        x.whistle(0, 12);
        promise = 27;
        due("whyNot(0, 12)", 1, () -> x.whyNot(0, 12));
        due("whyNot(0, 0)", 1, () -> x.whyNot(0, 0));
        due("whyNot(5, 12)", 0, () -> x.whyNot(5, 12));
        refused("whyNot(6, 0)", INDEX, () -> x.whyNot(6, 0));
        refused("whyNot(-1, 0)", INDEX, () -> x.whyNot(-1, 0));
        refused("whyNot(0, 20)", INDEX, () -> x.whyNot(0, 20));
        refused("whyNot(0, -1)", INDEX, () -> x.whyNot(0, -1));
        promise = 28;
        foreseen(0, 12, -1, -1, -1, -1);
        foreseen(2, 12, 59, 1, 1, 1);
        x.set(1, 9);
        foreseen(0, 12, 14, 4, 1, 4);
        refused("ifWhistled(0, 0, 4)", ARGUMENT, () -> x.ifWhistled(0, 0, 4));
        refused("ifWhistled(0, 12, -1)", ARGUMENT, () -> x.ifWhistled(0, 12, -1));
        refused("ifWhistled(6, 12, 4)", INDEX, () -> x.ifWhistled(6, 12, 4));
        refused("ifWhistled(-1, 12, 0)", INDEX, () -> x.ifWhistled(-1, 12, 0));
        refused("ifWhistled(0, 20, 4)", INDEX, () -> x.ifWhistled(0, 20, 4));
        refused("ifWhistled(0, -1, 0)", INDEX, () -> x.ifWhistled(0, -1, 0));
    }

    private static void theBestRoom() {
        fresh(29);
        due("bestRoom(12) without a tune", -1, () -> x.bestRoom(12));
        teach(12, "ce");
        due("bestRoom(12)", 2, () -> x.bestRoom(12));
        x.ban(0, 12);
        due("bestRoom(12) with a master on the floor 0", 4, () -> x.bestRoom(12));
        x.bell();
        due("bestRoom(12) with a master on the floor 1", -1, () -> x.bestRoom(12));
        x.set(0, 0);
        due("bestRoom(12) with reach 0", 0, () -> x.bestRoom(12));
        x.key(1);
        x.tell(0);
        due("bestRoom(12) with a lone key", 4, () -> x.bestRoom(12));
        x.tell(4);
        due("bestRoom(12) that no room understands", 0, () -> x.bestRoom(12));
        x.set(1, 1);
        teach(13, "cf");
        x.ban(2, 13);
        due("whistle(0, 13) that is caught", 0, () -> x.whistle(0, 13));
        due("bestRoom(12) with a silenced room", 1, () -> x.bestRoom(12));
        refused("bestRoom(20)", INDEX, () -> x.bestRoom(20));
        refused("bestRoom(-1)", INDEX, () -> x.bestRoom(-1));
    }

    private static void share(double want) {
        due("understoodShare()", Double.doubleToLongBits(want), () -> Double.doubleToLongBits(x.understoodShare()));
    }

    private static void shares() {
        fresh(30);
        share(1.0);
        teach(0, "cd");
        x.key(1);
        x.tell(0);
        x.whistle(0, 0);
        share(0.0);
        x.whistle(1, 0);
        share(2.0 / 6.0);
        x.whistle(5, 0);
        share(5.0 / 9.0);
        x.undo();
        share(2.0 / 6.0);
    }

    private static long hashed(String text) {
        long hash = 3911;
        for (int what = 0; what < 14; what++) {
            hash = 31 * hash + x.count(what);
        }
        for (int message = 0; message < 20; message++) {
            for (int what = 0; what < 4; what++) {
                hash = 31 * hash + x.message(message, what);
            }
            for (int place = 0; place < 8; place++) {
                hash = 31 * hash + x.note(message, place);
            }
            hash = 31 * hash + x.bestRoom(message);
        }
        for (int room = 0; room < 6; room++) {
            for (int what = 0; what < 6; what++) {
                hash = 31 * hash + x.room(room, what);
            }
            hash = 31 * hash + x.whyNot(room, 0);
            for (int what = 0; what < 4; what++) {
                hash = 31 * hash + x.ifWhistled(room, 12, what);
            }
        }
        for (int what = 0; what < 6; what++) {
            hash = 31 * hash + x.latest(what);
        }
        hash = 31 * (31 * hash + x.stopped(0)) + x.stopped(1);
        hash = 31 * hash + Double.doubleToLongBits(x.understoodShare());
        hash = 31 * hash + text.length();
        for (char c : text.toCharArray()) {
            hash = 31 * hash + c;
        }
        return hash;
    }

    // hashed() alone makes some 350 of the 512 calls, so that each history has an object of its own.
    private static void digests() {
        String evening = "12=cd,k2,t0,w0:12,w1:12,w5:12,w0:1";
        for (int history = 0; history < 4; history++) {
            fresh(31);
            type(history == 0 ? "" : evening);
            if (history >= 2) {
                x.play();
                typed = "";
            }
            if (history == 3) {
                x.undo();
            }
            due("digest() of the history " + history, hashed(typed), () -> x.digest());
        }
    }

    public static void main(String[] args) {
        aNewObject();
        teaching();
        forgetting();
        changingKeys();
        lookoutsAndMasters();
        bells();
        settings();
        whistles();
        catching();
        buffer();
        errors();
        evenings();
        goingBack();
        looks();
        counts();
        decoding();
        whatWouldBe();
        theBestRoom();
        shares();
        digests();
        System.out.println(wrong == 0 ? "all promises hold" : wrong + " answers are not as due");
        if (wrong != 0) {
            System.exit(1);
        }
    }
}
