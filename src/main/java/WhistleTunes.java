import java.util.Arrays;

/** The whistle code of a boarding school; ../shared/DOC.md says what each call promises. */
public final class WhistleTunes {
    public static final int NONE = -1;

    private static final int NOTES = 7;
    private static final int LEAST_NOTES = 2;
    private static final int MOST_NOTES = 8;
    private static final int MOST_DEPTH = 3;
    private static final int MESSAGES = 20;
    private static final int FIRST_ALARM = 12;
    private static final int ROOMS = 6;
    private static final int ROOMS_OF_A_FLOOR = 2;
    private static final int FLOORS = 3;
    private static final int MASTERS = 3;
    private static final int NIGHTS_OF_A_WEEK = 7;
    private static final int SETTINGS = 2;
    private static final int REACH = 0;
    private static final int MARK_LIMIT = 1;
    private static final int MOST_CODES = 60;
    private static final int MOST_SAVED = 6;
    private static final int MESSAGE_NUMBERS = 4;
    private static final int ROOM_NUMBERS = 6;
    private static final int LATEST_NUMBERS = 6;
    private static final int STOP_NUMBERS = 2;
    private static final int COUNTS = 14;
    private static final int WHISTLE_MASKS = 4;
    private static final int SILENCED = 1;
    private static final int NO_TUNE = 2;
    private static final int NOT_OF_TUNE_LENGTH = 3;
    private static final int SHAPE_TAKEN = 4;
    private static final String NOTE_NAMES = "cdefgah";

    private final School school;
    private final School snapshot;
    private final History history;
    private final Text text;
    private final Grammar grammar;
    private final Tune tune;
    private final ShapeTree tree;
    private final Outcome outcome;
    private boolean hasSnapshot;

    // All rows that any call needs are made here, so that no later call makes an object.
    public WhistleTunes() {
        school = new School();
        snapshot = new School();
        history = new History();
        text = new Text();
        grammar = new Grammar();
        tune = new Tune();
        tree = new ShapeTree();
        outcome = new Outcome();
        hasSnapshot = false;
    }

    // ---- messages, keys

    public int teach(int message) throws IndexOutOfBoundsException, IllegalArgumentException, IllegalStateException {
        if (!isMessage(message)) {
            throw new IndexOutOfBoundsException("no such message");
        }
        if (!readTuneOfText()) {
            throw new IllegalArgumentException("the buffer is not a tune");
        }
        if (reasonAgainstTune(message) != 0) {
            throw new IllegalStateException("the tune cannot be taught");
        }
        history.push(school);
        school.learn(message, tune);
        text.empty();
        return tune.length;
    }

    public int forget(int message) throws IndexOutOfBoundsException {
        if (!isMessage(message)) {
            throw new IndexOutOfBoundsException("no such message");
        }
        history.push(school);
        int length = school.tuneLengths[message];
        school.tuneLengths[message] = 0;
        return length;
    }

    public int key(int key) throws IllegalArgumentException {
        if (!isKey(key)) {
            throw new IllegalArgumentException("no such key");
        }
        history.push(school);
        int previous = school.keyOfNow;
        school.keyOfNow = key;
        return previous;
    }

    public int tell(int room) throws IndexOutOfBoundsException {
        if (!isRoom(room)) {
            throw new IndexOutOfBoundsException("no such room");
        }
        history.push(school);
        int previous = school.roomKeys[room];
        school.roomKeys[room] = school.keyOfNow;
        return previous;
    }

    // ---- floors, masters, nights

    public int lookout(int floor, boolean isAwake) throws IndexOutOfBoundsException {
        if (floor < 0 || floor >= FLOORS) {
            throw new IndexOutOfBoundsException("no such floor");
        }
        history.push(school);
        int bit = 1 << floor;
        school.awakeFloors = isAwake ? school.awakeFloors | bit : school.awakeFloors & ~bit;
        return Integer.bitCount(school.awakeFloors);
    }

    public int ban(int master, int message) throws IndexOutOfBoundsException {
        if (master < 0 || master >= MASTERS || !isMessage(message)) {
            throw new IndexOutOfBoundsException("no such master or message");
        }
        history.push(school);
        school.forbidders[message] ^= 1 << master;
        return hasBit(school.forbidders[message], master) ? 1 : 0;
    }

    public int bell() {
        history.push(school);
        school.beginNight();
        return school.night;
    }

    public int set(int setting, int value) throws IndexOutOfBoundsException, IllegalArgumentException {
        if (setting < 0 || setting >= SETTINGS) {
            throw new IndexOutOfBoundsException("no such setting");
        }
        if (!isValueOf(setting, value)) {
            throw new IllegalArgumentException("the value is out of range");
        }
        history.push(school);
        int previous = school.settings[setting];
        school.settings[setting] = value;
        return previous;
    }

    public int whistle(int room, int message) throws IndexOutOfBoundsException, IllegalStateException {
        if (!isRoom(room) || !isMessage(message)) {
            throw new IndexOutOfBoundsException("no such room or message");
        }
        if (school.reasonAgainst(room, message) != 0) {
            throw new IllegalStateException("it cannot be whistled");
        }
        history.push(school);
        return soundWhistle(room, message);
    }

    // ---- texts

    public int append(int code) throws IllegalArgumentException, IllegalStateException {
        if (code < 33 || code > 126) {
            throw new IllegalArgumentException("no such character");
        }
        if (text.length >= MOST_CODES) {
            throw new IllegalStateException("the buffer is full");
        }
        text.add((char) code);
        return text.length;
    }

    public int clearBuffer() {
        int length = text.length;
        text.empty();
        return length;
    }

    public int firstError() {
        return grammar.readEvening(text);
    }

    public int tuneError() {
        return grammar.readTune(text);
    }

    public int play() throws IllegalArgumentException {
        if (grammar.readEvening(text) < text.length || !grammar.mayEnd()) {
            throw new IllegalArgumentException("the buffer is not an evening");
        }
        history.push(school);
        int parts = 0;
        int reason = 0;
        int start = 0;
        for (int end = 0; end <= text.length && reason == 0; end++) {
            if (end == text.length || text.at(end) == ',') {
                reason = playPart(start, end);
                parts += reason == 0 ? 1 : 0;
                start = end + 1;
            }
        }
        school.latestStop[0] = reason == 0 ? NONE : parts;
        school.latestStop[1] = reason == 0 ? NONE : reason;
        text.empty();
        return parts;
    }

    public int stopped(int what) throws IllegalArgumentException {
        if (what < 0 || what >= STOP_NUMBERS) {
            throw new IllegalArgumentException("no such number");
        }
        return school.latestStop[what];
    }

    // ---- undo, the snapshot

    public int undo() throws IllegalStateException {
        if (history.size == 0) {
            throw new IllegalStateException("no saved state");
        }
        history.popInto(school);
        return history.size;
    }

    public int keep() {
        snapshot.copyFrom(school);
        hasSnapshot = true;
        return school.night;
    }

    public int restore() throws IllegalStateException {
        if (!hasSnapshot) {
            throw new IllegalStateException("no snapshot");
        }
        history.push(school);
        school.copyFrom(snapshot);
        return school.night;
    }

    // ---- looks; nothing is changed

    public int message(int message, int what) throws IndexOutOfBoundsException, IllegalArgumentException {
        if (!isMessage(message)) {
            throw new IndexOutOfBoundsException("no such message");
        }
        switch (what) {
            case 0:
                return school.tuneLengths[message];
            case 1:
                return school.forbidders[message];
            case 2:
                return school.timesWhistled[message];
            case 3:
                return school.timesUnderstood[message];
            default:
                throw new IllegalArgumentException("no such number");
        }
    }

    public int note(int message, int place) throws IndexOutOfBoundsException, IllegalArgumentException {
        if (!isMessage(message)) {
            throw new IndexOutOfBoundsException("no such message");
        }
        if (place < 0 || place >= MOST_NOTES) {
            throw new IllegalArgumentException("no such place");
        }
        return place < school.tuneLengths[message] ? school.noteAt(message, place) : NONE;
    }

    public int room(int room, int what) throws IndexOutOfBoundsException, IllegalArgumentException {
        if (!isRoom(room)) {
            throw new IndexOutOfBoundsException("no such room");
        }
        switch (what) {
            case 0:
                return school.roomKeys[room];
            case 1:
                return school.roomMarks[room];
            case 2:
                return hasBit(school.raisedRooms, room) ? 1 : 0;
            case 3:
                return school.isSilenced(room) ? 1 : 0;
            case 4:
                return school.roomUnderstood[room];
            case 5:
                return school.roomNoise[room];
            default:
                throw new IllegalArgumentException("no such number");
        }
    }

    public int latest(int what) throws IllegalArgumentException {
        if (what < 0 || what >= LATEST_NUMBERS) {
            throw new IllegalArgumentException("no such number");
        }
        return school.latestWhistle[what];
    }

    public int count(int what) throws IllegalArgumentException {
        switch (what) {
            case 0:
                return school.night;
            case 1:
                return school.keyOfNow;
            case 2:
                return school.messagesWithTune();
            case 3:
                tree.growFrom(school);
                return tree.nodes;
            case 4:
                return school.longestTune();
            case 5:
                return school.awakeFloors;
            case 6:
                return Integer.bitCount(school.raisedRooms);
            case 7:
                return school.silencedRooms();
            case 8:
                return sumOf(school.timesWhistled);
            case 9:
                return sumOf(school.roomMarks);
            case 10:
                return school.roomsOfKey(school.keyOfNow);
            case 11:
                return school.settings[REACH];
            case 12:
                return school.settings[MARK_LIMIT];
            case 13:
                return history.size;
            default:
                throw new IllegalArgumentException("no such number");
        }
    }

    // ---- what would be; nothing is changed

    public int decode(int key, int way) throws IllegalArgumentException {
        if (!isKey(key) || way < 0 || way > 1) {
            throw new IllegalArgumentException("no such key or way");
        }
        if (!readTuneOfText()) {
            throw new IllegalArgumentException("the buffer is not a tune");
        }
        return way == 0 ? decodeByTree(key) : decodeByMessages(key);
    }

    public int keyOf() throws IllegalArgumentException {
        if (!readTuneOfText()) {
            throw new IllegalArgumentException("the buffer is not a tune");
        }
        int message = messageOfShape();
        return message == NONE ? NONE : keyBetween(message);
    }

    public int whyNot(int room, int message) throws IndexOutOfBoundsException {
        if (!isRoom(room) || !isMessage(message)) {
            throw new IndexOutOfBoundsException("no such room or message");
        }
        return school.reasonAgainst(room, message);
    }

    public int ifWhistled(int room, int message, int what) throws IndexOutOfBoundsException, IllegalArgumentException {
        if (!isRoom(room) || !isMessage(message)) {
            throw new IndexOutOfBoundsException("no such room or message");
        }
        if (what < 0 || what >= WHISTLE_MASKS) {
            throw new IllegalArgumentException("no such mask");
        }
        if (school.reasonAgainst(room, message) != 0) {
            return NONE;
        }
        outcome.foresee(school, room, message);
        switch (what) {
            case 0:
                return outcome.hearers;
            case 1:
                return outcome.understanders;
            case 2:
                return outcome.catchers;
            default:
                return outcome.raised;
        }
    }

    public int bestRoom(int message) throws IndexOutOfBoundsException {
        if (!isMessage(message)) {
            throw new IndexOutOfBoundsException("no such message");
        }
        int best = NONE;
        int most = NONE;
        for (int room = 0; room < ROOMS; room++) {
            outcome.foresee(school, room, message);
            int understood = Integer.bitCount(outcome.understanders);
            boolean isFree = outcome.catchers == 0 && school.reasonAgainst(room, message) == 0;
            if (isFree && understood > most) {
                most = understood;
                best = room;
            }
        }
        return best;
    }

    public double understoodShare() {
        int understood = sumOf(school.roomUnderstood);
        int heard = understood + sumOf(school.roomNoise);
        return heard <= 0 ? 1.0 : (double) understood / (double) heard;
    }

    public long digest() {
        long hash = 3911;
        for (int what = 0; what < COUNTS; what++) {
            hash = 31 * hash + count(what);
        }
        for (int message = 0; message < MESSAGES; message++) {
            hash = withMessage(hash, message);
        }
        for (int room = 0; room < ROOMS; room++) {
            hash = withRoom(hash, room);
        }
        for (int what = 0; what < LATEST_NUMBERS; what++) {
            hash = 31 * hash + latest(what);
        }
        for (int what = 0; what < STOP_NUMBERS; what++) {
            hash = 31 * hash + stopped(what);
        }
        hash = 31 * hash + bitsOfShare(understoodShare());
        return withText(hash);
    }

    private long withMessage(long before, int message) {
        long hash = before;
        for (int what = 0; what < MESSAGE_NUMBERS; what++) {
            hash = 31 * hash + message(message, what);
        }
        for (int place = 0; place < MOST_NOTES; place++) {
            hash = 31 * hash + note(message, place);
        }
        return 31 * hash + bestRoom(message);
    }

    private long withRoom(long before, int room) {
        long hash = before;
        for (int what = 0; what < ROOM_NUMBERS; what++) {
            hash = 31 * hash + room(room, what);
        }
        hash = 31 * hash + whyNot(room, 0);
        for (int what = 0; what < WHISTLE_MASKS; what++) {
            hash = 31 * hash + ifWhistled(room, FIRST_ALARM, what);
        }
        return hash;
    }

    private long withText(long before) {
        long hash = 31 * before + text.length;
        for (int index = 0; index < text.length; index++) {
            hash = 31 * hash + text.at(index);
        }
        return hash;
    }

    // LANGUAGE.md lists no Double.doubleToLongBits; for a share of 0 to 1 these steps give its bits, and none rounds.
    private static long bitsOfShare(double share) {
        if (!(share > 0.0)) {
            return 0L;
        }
        double scaled = share;
        long exponent = 1023;
        for (int step = 0; step < 64 && scaled < 1.0; step++) {
            scaled = scaled * 2.0;
            exponent--;
        }
        return (exponent << 52) + (long) ((scaled - 1.0) * 4503599627370496.0);
    }

    private static boolean isMessage(int message) {
        return message >= 0 && message < MESSAGES;
    }

    private static boolean isRoom(int room) {
        return room >= 0 && room < ROOMS;
    }

    private static boolean isKey(int key) {
        return key >= 0 && key < NOTES;
    }

    private static boolean isValueOf(int setting, int value) {
        return setting == REACH ? value >= 0 && value <= 2 : value >= 1 && value <= 9;
    }

    private static boolean hasBit(int mask, int bit) {
        return (mask >> bit & 1) == 1;
    }

    private static int sumOf(int[] numbers) {
        int sum = 0;
        for (int number : numbers) {
            sum += number;
        }
        return sum;
    }

    private boolean readTuneOfText() {
        if (grammar.readTune(text) < text.length || !grammar.mayEnd()) {
            return false;
        }
        tune.read(text, 0, text.length);
        return true;
    }

    private int reasonAgainstTune(int message) {
        if (!tune.isOfTuneLength()) {
            return NOT_OF_TUNE_LENGTH;
        }
        tree.growFrom(school);
        int owner = tree.messageOf(tune);
        return owner == NONE || owner == message ? 0 : SHAPE_TAKEN;
    }

    private int messageOfShape() {
        if (!tune.isOfTuneLength()) {
            return NONE;
        }
        tree.growFrom(school);
        return tree.messageOf(tune);
    }

    private int keyBetween(int message) {
        return Math.floorMod(tune.notes[0] - school.noteAt(message, 0), NOTES);
    }

    private int decodeByTree(int key) {
        int message = messageOfShape();
        return message != NONE && keyBetween(message) == key ? message : NONE;
    }

    private int decodeByMessages(int key) {
        if (!tune.isOfTuneLength()) {
            return NONE;
        }
        for (int message = 0; message < MESSAGES; message++) {
            if (isWhistledAs(message, key)) {
                return message;
            }
        }
        return NONE;
    }

    private boolean isWhistledAs(int message, int key) {
        if (tune.length != school.tuneLengths[message]) {
            return false;
        }
        for (int place = 0; place < tune.length; place++) {
            if (tune.notes[place] != (school.noteAt(message, place) + key) % NOTES) {
                return false;
            }
        }
        return true;
    }

    private int playPart(int start, int end) {
        char sign = text.at(start);
        if (sign == 'w') {
            return playWhistle(text.numberIn(start + 1, start + 2), text.numberIn(start + 3, end));
        }
        if (sign != '!' && sign != 'k' && sign != 't') {
            return playTeaching(start, end);
        }
        if (sign == '!') {
            school.beginNight();
        } else if (sign == 'k') {
            school.keyOfNow = text.numberIn(start + 1, end);
        } else {
            playTelling(text.numberIn(start + 1, end));
        }
        return 0;
    }

    // The grammar lets no other rooms and messages through; the parts look once more, so that no index depends on that.
    private void playTelling(int room) {
        if (isRoom(room)) {
            school.roomKeys[room] = school.keyOfNow;
        }
    }

    private int playWhistle(int room, int message) {
        if (!isRoom(room) || !isMessage(message)) {
            return NO_TUNE;
        }
        int reason = school.reasonAgainst(room, message);
        if (reason == 0) {
            soundWhistle(room, message);
        }
        return reason;
    }

    private int soundWhistle(int room, int message) {
        outcome.foresee(school, room, message);
        school.remember(room, message, outcome);
        return Integer.bitCount(outcome.understanders);
    }

    private int playTeaching(int start, int end) {
        int middle = text.at(start + 1) == '=' ? start + 1 : start + 2;
        int message = text.numberIn(start, middle);
        if (!isMessage(message)) {
            return NO_TUNE;
        }
        tune.read(text, middle + 1, end);
        int reason = reasonAgainstTune(message);
        if (reason == 0) {
            school.learn(message, tune);
        }
        return reason;
    }

    /** All that undo and the snapshot bring back. */
    private static final class School {
        int night;
        int keyOfNow;
        int awakeFloors;
        int raisedRooms;
        final int[] settings = {1, 3};
        final int[] tuneLengths = new int[MESSAGES];
        final int[] tuneNotes = new int[MESSAGES * MOST_NOTES];
        final int[] forbidders = new int[MESSAGES];
        final int[] timesWhistled = new int[MESSAGES];
        final int[] timesUnderstood = new int[MESSAGES];
        final int[] roomKeys = new int[ROOMS];
        final int[] roomMarks = new int[ROOMS];
        final int[] roomUnderstood = new int[ROOMS];
        final int[] roomNoise = new int[ROOMS];
        final int[] latestWhistle = {NONE, NONE, NONE, NONE, NONE, NONE};
        final int[] latestStop = {NONE, NONE};

        void copyFrom(School other) {
            night = other.night;
            keyOfNow = other.keyOfNow;
            awakeFloors = other.awakeFloors;
            raisedRooms = other.raisedRooms;
            System.arraycopy(other.settings, 0, settings, 0, SETTINGS);
            System.arraycopy(other.tuneLengths, 0, tuneLengths, 0, MESSAGES);
            System.arraycopy(other.tuneNotes, 0, tuneNotes, 0, MESSAGES * MOST_NOTES);
            System.arraycopy(other.forbidders, 0, forbidders, 0, MESSAGES);
            System.arraycopy(other.timesWhistled, 0, timesWhistled, 0, MESSAGES);
            System.arraycopy(other.timesUnderstood, 0, timesUnderstood, 0, MESSAGES);
            System.arraycopy(other.roomKeys, 0, roomKeys, 0, ROOMS);
            System.arraycopy(other.roomMarks, 0, roomMarks, 0, ROOMS);
            System.arraycopy(other.roomUnderstood, 0, roomUnderstood, 0, ROOMS);
            System.arraycopy(other.roomNoise, 0, roomNoise, 0, ROOMS);
            System.arraycopy(other.latestWhistle, 0, latestWhistle, 0, LATEST_NUMBERS);
            System.arraycopy(other.latestStop, 0, latestStop, 0, STOP_NUMBERS);
        }

        void learn(int message, Tune taught) {
            if (taught.isOfTuneLength()) {
                tuneLengths[message] = taught.length;
                System.arraycopy(taught.notes, 0, tuneNotes, message * MOST_NOTES, taught.length);
            }
        }

        int noteAt(int message, int place) {
            int index = message * MOST_NOTES + place;
            return index >= 0 && index < tuneNotes.length ? tuneNotes[index] : 0;
        }

        void beginNight() {
            night++;
            raisedRooms = 0;
            if (night % NIGHTS_OF_A_WEEK == 0) {
                for (int room = 0; room < ROOMS; room++) {
                    roomMarks[room] = 0;
                }
            }
        }

        boolean isSilenced(int room) {
            return roomMarks[room] >= settings[MARK_LIMIT];
        }

        int reasonAgainst(int room, int message) {
            if (isSilenced(room)) {
                return SILENCED;
            }
            return tuneLengths[message] == 0 ? NO_TUNE : 0;
        }

        int floorsAround(int floor) {
            int floors = 0;
            for (int other = 0; other < FLOORS; other++) {
                if (other - floor <= settings[REACH] && floor - other <= settings[REACH]) {
                    floors |= 1 << other;
                }
            }
            return floors;
        }

        int floorsHearing(int room) {
            int floors = floorsAround(room / ROOMS_OF_A_FLOOR);
            // As many rounds as floors are enough: a round that passes the whistle on brings at least one floor more.
            for (int round = 0; round < FLOORS; round++) {
                for (int floor = 0; floor < FLOORS; floor++) {
                    if (hasBit(floors & awakeFloors, floor)) {
                        floors |= floorsAround(floor);
                    }
                }
            }
            return floors;
        }

        int roomsOn(int floors) {
            int rooms = 0;
            for (int room = 0; room < ROOMS; room++) {
                if (hasBit(floors, room / ROOMS_OF_A_FLOOR)) {
                    rooms |= 1 << room;
                }
            }
            return rooms;
        }

        int mastersOn(int floors) {
            int masters = 0;
            for (int master = 0; master < MASTERS; master++) {
                if (hasBit(floors, (master + night) % FLOORS)) {
                    masters |= 1 << master;
                }
            }
            return masters;
        }

        int roomsOfKey(int key) {
            int rooms = 0;
            for (int room = 0; room < ROOMS; room++) {
                if (roomKeys[room] == key) {
                    rooms |= 1 << room;
                }
            }
            return rooms;
        }

        void remember(int room, int message, Outcome outcome) {
            latestWhistle[0] = room;
            latestWhistle[1] = message;
            latestWhistle[2] = outcome.floors;
            latestWhistle[3] = outcome.understanders;
            latestWhistle[4] = outcome.catchers;
            latestWhistle[5] = outcome.raised;
            timesWhistled[message]++;
            timesUnderstood[message] += Integer.bitCount(outcome.understanders);
            countHearing(outcome.hearers, outcome.understanders);
            roomMarks[room] += Integer.bitCount(outcome.catchers);
            raisedRooms |= outcome.raised;
        }

        void countHearing(int hearers, int understanders) {
            for (int room = 0; room < ROOMS; room++) {
                if (hasBit(understanders, room)) {
                    roomUnderstood[room]++;
                } else if (hasBit(hearers, room)) {
                    roomNoise[room]++;
                }
            }
        }

        int messagesWithTune() {
            int messages = 0;
            for (int length : tuneLengths) {
                if (length > 0) {
                    messages++;
                }
            }
            return messages;
        }

        int longestTune() {
            int longest = 0;
            for (int length : tuneLengths) {
                longest = Math.max(longest, length);
            }
            return longest;
        }

        int silencedRooms() {
            int rooms = 0;
            for (int room = 0; room < ROOMS; room++) {
                if (isSilenced(room)) {
                    rooms++;
                }
            }
            return rooms;
        }
    }

    /** What a whistle brings, or would bring. */
    private static final class Outcome {
        int floors;
        int hearers;
        int understanders;
        int catchers;
        int raised;

        void foresee(School school, int room, int message) {
            int key = school.roomKeys[room];
            floors = school.floorsHearing(room);
            hearers = school.roomsOn(floors) & ~(1 << room);
            // No two tunes have one shape, so a tune tells something only by the key by which it was whistled.
            understanders = hearers & school.roomsOfKey(key);
            catchers = school.mastersOn(floors) & school.forbidders[message];
            raised = message >= FIRST_ALARM && key == school.keyOfNow ? understanders : 0;
        }
    }

    /** The saved states, in a ring, so that dropping the oldest one moves nothing. */
    private static final class History {
        private final School[] states = new School[MOST_SAVED];
        private int oldest;
        int size;

        History() {
            for (int slot = 0; slot < MOST_SAVED; slot++) {
                states[slot] = new School();
            }
        }

        void push(School school) {
            if (size == MOST_SAVED) {
                oldest = (oldest + 1) % MOST_SAVED;
                size--;
            }
            School state = states[(oldest + size) % MOST_SAVED];
            if (state != null) {
                state.copyFrom(school);
                size++;
            }
        }

        void popInto(School school) {
            if (size > 0) {
                size--;
                School state = states[(oldest + size) % MOST_SAVED];
                if (state != null) {
                    school.copyFrom(state);
                }
            }
        }
    }

    /** The buffer. */
    private static final class Text {
        private final char[] codes = new char[MOST_CODES];
        int length;

        void add(char code) {
            if (length < MOST_CODES) {
                codes[length] = code;
                length++;
            }
        }

        void empty() {
            length = 0;
        }

        char at(int index) {
            return index >= 0 && index < length ? codes[index] : 0;
        }

        int numberIn(int start, int end) {
            int number = 0;
            for (int index = start; index < end; index++) {
                number = number * 10 + (at(index) - '0');
            }
            return number;
        }
    }

    /** Reads a text from left to right and tells where it goes wrong and whether it may end there. */
    private static final class Grammar {
        private static final int WRONG = 0;
        private static final int PART = 1;
        private static final int TEACHING_ONE = 2;
        private static final int EQUALS = 3;
        private static final int ITEM = 4;
        private static final int MORE_OF_TUNE = 5;
        private static final int TIMES = 6;
        private static final int WHISTLER = 7;
        private static final int COLON = 8;
        private static final int WHISTLED = 9;
        private static final int WHISTLED_ONE = 10;
        private static final int TOLD = 11;
        private static final int KEY = 12;
        private static final int END_OF_PART = 13;

        private int expected;
        private int depth;
        private boolean isEvening;

        int readEvening(Text text) {
            isEvening = true;
            return readFrom(PART, text);
        }

        int readTune(Text text) {
            isEvening = false;
            return readFrom(ITEM, text);
        }

        boolean mayEnd() {
            return expected == END_OF_PART || expected == WHISTLED_ONE || expected == MORE_OF_TUNE && depth == 0;
        }

        private int readFrom(int start, Text text) {
            expected = start;
            depth = 0;
            for (int index = 0; index < text.length; index++) {
                expected = after(text.at(index));
                if (expected == WRONG) {
                    return index;
                }
            }
            return text.length;
        }

        private int after(char code) {
            switch (expected) {
                case PART:
                    return afterStart(code);
                case TEACHING_ONE:
                    return isIn(code, '0', '9') ? EQUALS : whenIs(code, '=', ITEM);
                case EQUALS:
                    return whenIs(code, '=', ITEM);
                case ITEM:
                    return afterItem(code);
                case MORE_OF_TUNE:
                    return afterMore(code);
                case TIMES:
                    return isIn(code, '2', '3') ? MORE_OF_TUNE : WRONG;
                case WHISTLER:
                    return isIn(code, '0', '5') ? COLON : WRONG;
                case COLON:
                    return whenIs(code, ':', WHISTLED);
                case WHISTLED:
                    return code == '1' ? WHISTLED_ONE : isIn(code, '0', '9') ? END_OF_PART : WRONG;
                case WHISTLED_ONE:
                    return isIn(code, '0', '9') ? END_OF_PART : whenIs(code, ',', PART);
                case TOLD:
                    return isIn(code, '0', '5') ? END_OF_PART : WRONG;
                case KEY:
                    return isIn(code, '0', '6') ? END_OF_PART : WRONG;
                case END_OF_PART:
                    return whenIs(code, ',', PART);
                default:
                    return WRONG;
            }
        }

        private static int afterStart(char code) {
            if (code == '!') {
                return END_OF_PART;
            }
            if (code == 'w') {
                return WHISTLER;
            }
            if (code == 't') {
                return TOLD;
            }
            if (code == 'k') {
                return KEY;
            }
            if (code == '1') {
                return TEACHING_ONE;
            }
            return isIn(code, '0', '9') ? EQUALS : WRONG;
        }

        private int afterItem(char code) {
            if (NOTE_NAMES.indexOf(code) >= 0) {
                return MORE_OF_TUNE;
            }
            if (code == '(' && depth < MOST_DEPTH) {
                depth++;
                return ITEM;
            }
            return WRONG;
        }

        private int afterMore(char code) {
            if (code == ')' && depth > 0) {
                depth--;
                return TIMES;
            }
            if (code == ',' && depth == 0 && isEvening) {
                return PART;
            }
            return afterItem(code);
        }

        private static boolean isIn(char code, char least, char most) {
            return code >= least && code <= most;
        }

        private static int whenIs(char code, char wanted, int next) {
            return code == wanted ? next : WRONG;
        }
    }

    /** The notes of a text; of one with too many only so many that this can be told. */
    private static final class Tune {
        private static final int ROOM_FOR_NOTES = MOST_NOTES + 1;

        final int[] notes = new int[ROOM_FOR_NOTES];
        private final int[] groupStarts = new int[MOST_DEPTH];
        int length;

        boolean isOfTuneLength() {
            return length >= LEAST_NOTES && length <= MOST_NOTES;
        }

        int shapeAt(int place) {
            return Math.floorMod(notes[place] - notes[0], NOTES);
        }

        // A group ends at its number, not at its ")": only then it is known how often it comes.
        void read(Text text, int start, int end) {
            length = 0;
            int depth = 0;
            for (int index = start; index < end; index++) {
                char code = text.at(index);
                int note = NOTE_NAMES.indexOf(code);
                if (note >= 0) {
                    add(note);
                } else if (code == '(' && depth < MOST_DEPTH) {
                    groupStarts[depth] = length;
                    depth++;
                } else if (code != ')' && depth > 0) {
                    depth--;
                    repeatFrom(groupStarts[depth], code - '0');
                }
            }
        }

        private void add(int note) {
            if (length < ROOM_FOR_NOTES) {
                notes[length] = note;
                length++;
            }
        }

        private void repeatFrom(int start, int times) {
            int added = (length - start) * (times - 1);
            for (int step = 0; step < added && start + step < ROOM_FOR_NOTES; step++) {
                add(notes[start + step]);
            }
        }
    }

    /** The tree of the shapes; the root is the node 0, and a child 0 stands for none. */
    private static final class ShapeTree {
        private static final int ALL_NODES = MESSAGES * MOST_NOTES + 1;

        private final int[] children = new int[ALL_NODES * NOTES];
        private final int[] messages = new int[ALL_NODES];
        int nodes;

        /** Grown anew at each use, as undo and restore change the tunes behind the tree's back. */
        void growFrom(School school) {
            Arrays.fill(children, 0);
            Arrays.fill(messages, NONE);
            nodes = 0;
            for (int message = 0; message < MESSAGES; message++) {
                if (school.tuneLengths[message] > 0) {
                    addShape(school, message);
                }
            }
        }

        int messageOf(Tune tune) {
            int node = 0;
            for (int place = 0; place < tune.length; place++) {
                node = childOf(node, tune.shapeAt(place));
                if (node == 0) {
                    return NONE;
                }
            }
            return node < ALL_NODES ? messages[node] : NONE;
        }

        private int childOf(int node, int note) {
            int edge = node * NOTES + note;
            return edge >= 0 && edge < children.length ? children[edge] : 0;
        }

        private void addShape(School school, int message) {
            int first = school.noteAt(message, 0);
            int node = 0;
            for (int place = 0; place < school.tuneLengths[message]; place++) {
                node = childFor(node, Math.floorMod(school.noteAt(message, place) - first, NOTES));
            }
            if (node < ALL_NODES) {
                messages[node] = message;
            }
        }

        private int childFor(int node, int note) {
            int edge = node * NOTES + note;
            if (edge < 0 || edge >= children.length) {
                return 0;
            }
            if (children[edge] == 0 && nodes + 1 < ALL_NODES) {
                nodes++;
                children[edge] = nodes;
            }
            return children[edge];
        }
    }
}
