import java.util.ArrayDeque;
import java.util.ArrayList;
import java.util.Arrays;
import java.util.Deque;
import java.util.List;
import java.util.Random;
import java.util.Set;
import java.util.TreeSet;
import java.util.function.LongSupplier;
import java.util.regex.Matcher;
import java.util.regex.Pattern;

/** Compares the class with a second, slow model of the document, over many runs with fixed seeds. */
public final class ModelTests {
    private static final int RUNS = 1500;
    private static final int CALLS = 512;

    /** The document, told once more in another way: sets, regular expressions, whole copies. */
    private static final class Model {
        static final String NAMES = "cdefgah";
        static final String NOTE = "[cdefgah]";
        static final String ONE_DEEP = "(?:" + NOTE + "|\\((?:" + NOTE + ")+\\)[23])";
        static final String TWO_DEEP = "(?:" + NOTE + "|\\((?:" + ONE_DEEP + ")+\\)[23])";
        static final String ITEM = "(?:" + NOTE + "|\\((?:" + TWO_DEEP + ")+\\)[23])";
        static final String NUMBER = "(?:1[0-9]|[0-9])";
        static final String PART = "(?:" + NUMBER + "=" + ITEM + "+|w[0-5]:" + NUMBER + "|t[0-5]|k[0-6]|!)";
        static final Pattern TUNE = Pattern.compile(ITEM + "+");
        static final Pattern EVENING = Pattern.compile(PART + "(?:," + PART + ")*");
        static final Pattern GROUP = Pattern.compile("\\((" + NOTE + "+)\\)([23])");

        static final class State implements Cloneable {
            int night;
            int key;
            boolean[] awake = new boolean[3];
            int[] settings = {1, 3};
            String[] tunes = new String[20];
            boolean[][] forbids = new boolean[3][20];
            int[] whistled = new int[20];
            int[] understood = new int[20];
            int[] keys = new int[6];
            int[] marks = new int[6];
            boolean[] raised = new boolean[6];
            int[] heard = new int[6];
            int[] noise = new int[6];
            int[] latest = {-1, -1, -1, -1, -1, -1};
            int[] stop = {-1, -1};

            State copy() {
                State other = new State();
                other.night = night;
                other.key = key;
                other.awake = awake.clone();
                other.settings = settings.clone();
                other.tunes = tunes.clone();
                other.forbids = new boolean[][] {forbids[0].clone(), forbids[1].clone(), forbids[2].clone()};
                other.whistled = whistled.clone();
                other.understood = understood.clone();
                other.keys = keys.clone();
                other.marks = marks.clone();
                other.raised = raised.clone();
                other.heard = heard.clone();
                other.noise = noise.clone();
                other.latest = latest.clone();
                other.stop = stop.clone();
                return other;
            }
        }

        State now = new State();
        State kept;
        Deque<State> saved = new ArrayDeque<>();
        StringBuilder buffer = new StringBuilder();

        static void index(boolean good) {
            if (!good) {
                throw new IndexOutOfBoundsException();
            }
        }

        static void argument(boolean good) {
            if (!good) {
                throw new IllegalArgumentException();
            }
        }

        static void state(boolean good) {
            if (!good) {
                throw new IllegalStateException();
            }
        }

        static boolean in(int x, int least, int most) {
            return least <= x && x <= most;
        }

        void save() {
            saved.addLast(now.copy());
            if (saved.size() > 6) {
                saved.removeFirst();
            }
        }

        static String shifted(String tune, int by) {
            StringBuilder out = new StringBuilder();
            for (char c : tune.toCharArray()) {
                out.append(NAMES.charAt(((NAMES.indexOf(c) + by) % 7 + 7) % 7));
            }
            return out.toString();
        }

        static String shape(String tune) {
            return shifted(tune, -NAMES.indexOf(tune.charAt(0)));
        }

        static String spread(String text) {
            String out = text;
            for (Matcher m = GROUP.matcher(out); m.find(); m = GROUP.matcher(out)) {
                String group = m.group(1).repeat(Integer.parseInt(m.group(2)));
                out = out.substring(0, m.start()) + group + out.substring(m.end());
            }
            return out;
        }

        int errorOf(Pattern grammar) {
            for (int n = 1; n <= buffer.length(); n++) {
                Matcher m = grammar.matcher(buffer.substring(0, n));
                if (!m.matches() && !m.hitEnd()) {
                    return n - 1;
                }
            }
            return buffer.length();
        }

        String tuneOfBuffer() {
            argument(TUNE.matcher(buffer).matches());
            return spread(buffer.toString());
        }

        int whyNotTeach(int message, String tune) {
            if (!in(tune.length(), 2, 8)) {
                return 3;
            }
            for (int other = 0; other < 20; other++) {
                if (other != message && now.tunes[other] != null && shape(now.tunes[other]).equals(shape(tune))) {
                    return 4;
                }
            }
            return 0;
        }

        int whyNot(int room, int message) {
            index(in(room, 0, 5) && in(message, 0, 19));
            return now.marks[room] >= now.settings[1] ? 1 : now.tunes[message] == null ? 2 : 0;
        }

        Set<Integer> floors(int room) {
            Set<Integer> passers = new TreeSet<>(List.of(room / 2));
            Set<Integer> heard = new TreeSet<>();
            Set<Integer> done = new TreeSet<>();
            while (!passers.isEmpty()) {
                int from = passers.iterator().next();
                passers.remove(from);
                done.add(from);
                for (int floor = from - now.settings[0]; floor <= from + now.settings[0]; floor++) {
                    if (in(floor, 0, 2)) {
                        heard.add(floor);
                        if (now.awake[floor] && !done.contains(floor)) {
                            passers.add(floor);
                        }
                    }
                }
            }
            return heard;
        }

        int decoded(String whistled, int key) {
            return Arrays.asList(now.tunes).indexOf(shifted(whistled, -key));
        }

        int[] masks(int room, int message) {
            int[] masks = new int[5];
            Set<Integer> floors = floors(room);
            for (int floor : floors) {
                masks[4] |= 1 << floor;
                int master = ((floor - now.night) % 3 + 3) % 3;
                if (now.forbids[master][message]) {
                    masks[2] |= 1 << master;
                }
            }
            String whistled = shifted(now.tunes[message], now.keys[room]);
            for (int other = 0; other < 6; other++) {
                if (other != room && floors.contains(other / 2)) {
                    masks[0] |= 1 << other;
                    int told = decoded(whistled, now.keys[other]);
                    if (told != -1) {
                        state(told == message);
                        masks[1] |= 1 << other;
                        if (message >= 12 && now.keys[room] == now.key) {
                            masks[3] |= 1 << other;
                        }
                    }
                }
            }
            return masks;
        }

        int happenWhistle(int room, int message) {
            int[] masks = masks(room, message);
            now.latest = new int[] {room, message, masks[4], masks[1], masks[2], masks[3]};
            now.whistled[message]++;
            int rooms = 0;
            for (int other = 0; other < 6; other++) {
                if ((masks[1] & 1 << other) != 0) {
                    rooms++;
                    now.heard[other]++;
                } else if ((masks[0] & 1 << other) != 0) {
                    now.noise[other]++;
                }
                now.raised[other] |= (masks[3] & 1 << other) != 0;
            }
            now.understood[message] += rooms;
            now.marks[room] += Integer.bitCount(masks[2]);
            return rooms;
        }

        void happenBell() {
            now.night++;
            now.raised = new boolean[6];
            if (now.night % 7 == 0) {
                now.marks = new int[6];
            }
        }

        int happenPart(String part) {
            int reason = 0;
            if (part.equals("!")) {
                happenBell();
            } else if (part.startsWith("k")) {
                now.key = Integer.parseInt(part.substring(1));
            } else if (part.startsWith("t")) {
                now.keys[Integer.parseInt(part.substring(1))] = now.key;
            } else if (part.startsWith("w")) {
                String[] numbers = part.substring(1).split(":");
                int room = Integer.parseInt(numbers[0]);
                int message = Integer.parseInt(numbers[1]);
                reason = whyNot(room, message);
                if (reason == 0) {
                    happenWhistle(room, message);
                }
            } else {
                String[] sides = part.split("=");
                int message = Integer.parseInt(sides[0]);
                String tune = spread(sides[1]);
                reason = whyNotTeach(message, tune);
                if (reason == 0) {
                    now.tunes[message] = tune;
                }
            }
            return reason;
        }

        long teach(int message) {
            index(in(message, 0, 19));
            String tune = tuneOfBuffer();
            state(whyNotTeach(message, tune) == 0);
            save();
            now.tunes[message] = tune;
            buffer.setLength(0);
            return tune.length();
        }

        long forget(int message) {
            index(in(message, 0, 19));
            save();
            int length = now.tunes[message] == null ? 0 : now.tunes[message].length();
            now.tunes[message] = null;
            return length;
        }

        long key(int key) {
            argument(in(key, 0, 6));
            save();
            int before = now.key;
            now.key = key;
            return before;
        }

        long tell(int room) {
            index(in(room, 0, 5));
            save();
            int before = now.keys[room];
            now.keys[room] = now.key;
            return before;
        }

        long lookout(int floor, boolean isAwake) {
            index(in(floor, 0, 2));
            save();
            now.awake[floor] = isAwake;
            int awake = 0;
            for (boolean a : now.awake) {
                awake += a ? 1 : 0;
            }
            return awake;
        }

        long ban(int master, int message) {
            index(in(master, 0, 2) && in(message, 0, 19));
            save();
            now.forbids[master][message] = !now.forbids[master][message];
            return now.forbids[master][message] ? 1 : 0;
        }

        long bell() {
            save();
            happenBell();
            return now.night;
        }

        long set(int setting, int value) {
            index(in(setting, 0, 1));
            argument(setting == 0 ? in(value, 0, 2) : in(value, 1, 9));
            save();
            int before = now.settings[setting];
            now.settings[setting] = value;
            return before;
        }

        long whistle(int room, int message) {
            state(whyNot(room, message) == 0);
            save();
            return happenWhistle(room, message);
        }

        long append(int code) {
            argument(in(code, 33, 126));
            state(buffer.length() < 60);
            buffer.append((char) code);
            return buffer.length();
        }

        long clearBuffer() {
            int length = buffer.length();
            buffer.setLength(0);
            return length;
        }

        long play() {
            argument(EVENING.matcher(buffer).matches());
            save();
            now.stop = new int[] {-1, -1};
            int parts = 0;
            for (String part : buffer.toString().split(",")) {
                int reason = happenPart(part);
                if (reason != 0) {
                    now.stop = new int[] {parts, reason};
                    break;
                }
                parts++;
            }
            buffer.setLength(0);
            return parts;
        }

        long stopped(int what) {
            argument(in(what, 0, 1));
            return now.stop[what];
        }

        long undo() {
            state(!saved.isEmpty());
            now = saved.removeLast();
            return saved.size();
        }

        long keep() {
            kept = now.copy();
            return now.night;
        }

        long restore() {
            state(kept != null);
            save();
            now = kept.copy();
            return now.night;
        }

        long message(int message, int what) {
            index(in(message, 0, 19));
            argument(in(what, 0, 3));
            int mask = 0;
            for (int master = 0; master < 3; master++) {
                mask += now.forbids[master][message] ? 1 << master : 0;
            }
            int length = now.tunes[message] == null ? 0 : now.tunes[message].length();
            return new int[] {length, mask, now.whistled[message], now.understood[message]}[what];
        }

        long note(int message, int place) {
            index(in(message, 0, 19));
            argument(in(place, 0, 7));
            return place >= message(message, 0) ? -1 : NAMES.indexOf(now.tunes[message].charAt(place));
        }

        long room(int room, int what) {
            index(in(room, 0, 5));
            argument(in(what, 0, 5));
            int silenced = now.marks[room] >= now.settings[1] ? 1 : 0;
            int raised = now.raised[room] ? 1 : 0;
            int[] numbers = {now.keys[room], now.marks[room], raised, silenced, now.heard[room], now.noise[room]};
            return numbers[what];
        }

        long latest(int what) {
            argument(in(what, 0, 5));
            return now.latest[what];
        }

        long count(int what) {
            argument(in(what, 0, 13));
            Set<String> nodes = new TreeSet<>();
            int[] c = new int[14];
            c[0] = now.night;
            c[1] = now.key;
            for (String tune : now.tunes) {
                if (tune != null) {
                    c[2]++;
                    c[4] = Math.max(c[4], tune.length());
                    for (int n = 1; n <= tune.length(); n++) {
                        nodes.add(shape(tune).substring(0, n));
                    }
                }
            }
            c[3] = nodes.size();
            for (int floor = 0; floor < 3; floor++) {
                c[5] |= now.awake[floor] ? 1 << floor : 0;
            }
            for (int room = 0; room < 6; room++) {
                c[6] += now.raised[room] ? 1 : 0;
                c[7] += now.marks[room] >= now.settings[1] ? 1 : 0;
                c[9] += now.marks[room];
                c[10] |= now.keys[room] == now.key ? 1 << room : 0;
            }
            c[8] = Arrays.stream(now.whistled).sum();
            c[11] = now.settings[0];
            c[12] = now.settings[1];
            c[13] = saved.size();
            return c[what];
        }

        long decode(int key, int way) {
            argument(in(key, 0, 6) && in(way, 0, 1));
            return decoded(tuneOfBuffer(), key);
        }

        long keyOf() {
            String tune = tuneOfBuffer();
            for (int key = 0; key < 7; key++) {
                if (decoded(tune, key) != -1) {
                    return key;
                }
            }
            return -1;
        }

        long ifWhistled(int room, int message, int what) {
            int reason = whyNot(room, message);
            argument(in(what, 0, 3));
            return reason != 0 ? -1 : masks(room, message)[what];
        }

        long bestRoom(int message) {
            index(in(message, 0, 19));
            int best = -1;
            for (int room = 5; room >= 0; room--) {
                if (whyNot(room, message) == 0 && masks(room, message)[2] == 0) {
                    if (best == -1 || understoodFrom(room, message) >= understoodFrom(best, message)) {
                        best = room;
                    }
                }
            }
            return best;
        }

        int understoodFrom(int room, int message) {
            return Integer.bitCount(masks(room, message)[1]);
        }

        double understoodShare() {
            int heard = Arrays.stream(now.heard).sum();
            int noise = Arrays.stream(now.noise).sum();
            return heard + noise == 0 ? 1.0 : heard / (double) (heard + noise);
        }

        long digest() {
            List<Long> values = new ArrayList<>();
            for (int what = 0; what < 14; what++) {
                values.add(count(what));
            }
            for (int message = 0; message < 20; message++) {
                for (int what = 0; what < 4; what++) {
                    values.add(message(message, what));
                }
                for (int place = 0; place < 8; place++) {
                    values.add(note(message, place));
                }
                values.add(bestRoom(message));
            }
            for (int room = 0; room < 6; room++) {
                for (int what = 0; what < 6; what++) {
                    values.add(room(room, what));
                }
                values.add((long) whyNot(room, 0));
                for (int what = 0; what < 4; what++) {
                    values.add(ifWhistled(room, 12, what));
                }
            }
            for (int what = 0; what < 6; what++) {
                values.add(latest(what));
            }
            values.add(stopped(0));
            values.add(stopped(1));
            values.add(Double.doubleToLongBits(understoodShare()));
            values.add((long) buffer.length());
            buffer.chars().forEach(c -> values.add((long) c));
            long hash = 3911;
            for (long value : values) {
                hash = 31 * hash + value;
            }
            return hash;
        }
    }

    private static int wrong = 0;
    private static final int[] answered = new int[32];
    private static final int[] refused = new int[32];

    private final Random random;
    private final int run;
    private final int style;
    private final Model model = new Model();
    private final WhistleTunes tunes = new WhistleTunes();
    private final StringBuilder story = new StringBuilder();
    private int calls = 0;

    private ModelTests(int run) {
        this.run = run;
        this.random = new Random(run * 7919L + 17);
        this.style = run % 4;
    }

    private static String answer(LongSupplier call) {
        try {
            return Long.toString(call.getAsLong());
        } catch (RuntimeException e) {
            return e.getClass().getSimpleName();
        }
    }

    private void same(int promise, String call, LongSupplier due, LongSupplier got) {
        if (calls >= CALLS) {
            return;
        }
        calls++;
        String wanted = answer(due);
        String had = answer(got);
        story.append(call).append(" -> ").append(wanted).append('\n');
        (wanted.endsWith("Exception") ? refused : answered)[promise]++;
        if (!wanted.equals(had)) {
            wrong++;
            if (wrong <= 3) {
                System.out.println("run " + run + ":\n" + story + "but the class answered " + had);
            }
        }
    }

    private int below(int end) {
        return random.nextInt(end);
    }

    /** A number of the range, now and then one beside it. */
    private int about(int least, int most) {
        int luck = below(60);
        if (luck == 0) {
            return least - 1;
        }
        if (luck == 1) {
            return most + 1;
        }
        if (luck == 2) {
            return new int[] {Integer.MIN_VALUE, Integer.MAX_VALUE, -100, 100}[below(4)];
        }
        return least + below(most - least + 1);
    }

    private int someMessage() {
        return style == 0 ? about(0, 19) : style == 1 ? about(10, 14) : below(3) == 0 ? about(0, 19) : about(12, 13);
    }

    private String tuneText(int depth) {
        StringBuilder out = new StringBuilder();
        int items = 1 + below(depth == 0 ? 5 : 2);
        for (int item = 0; item < items; item++) {
            if (depth < 3 && below(5) == 0) {
                out.append('(').append(tuneText(depth + 1)).append(')').append(2 + below(2));
            } else {
                out.append(Model.NAMES.charAt(below(style == 3 ? 2 : 7)));
            }
        }
        return out.toString();
    }

    private String partText() {
        switch (below(8)) {
            case 0:
                return "!";
            case 1:
                return "k" + below(7);
            case 2:
                return "t" + below(6);
            case 3:
            case 4:
            case 5:
                return "w" + below(6) + ":" + below(20);
            default:
                return below(20) + "=" + tuneText(0);
        }
    }

    private String eveningText() {
        StringBuilder out = new StringBuilder(partText());
        int parts = below(6);
        for (int part = 0; part < parts; part++) {
            out.append(',').append(partText());
        }
        return out.toString();
    }

    private String damaged(String text) {
        if (below(3) != 0) {
            return text;
        }
        StringBuilder out = new StringBuilder(text);
        int place = below(out.length() + 1);
        String signs = "cdefgahb()0123456789=,:wtk!x~\"";
        if (below(2) == 0 || place == out.length()) {
            out.insert(place, signs.charAt(below(signs.length())));
        } else {
            out.deleteCharAt(place);
        }
        return out.toString();
    }

    private void type(String text) {
        for (char c : text.toCharArray()) {
            same(11, "append(" + (int) c + ")", () -> model.append(c), () -> tunes.append(c));
        }
    }

    private void lookAtText() {
        same(13, "firstError()", () -> model.errorOf(Model.EVENING), tunes::firstError);
        same(14, "tuneError()", () -> model.errorOf(Model.TUNE), tunes::tuneError);
    }

    private void clear() {
        same(12, "clearBuffer()", model::clearBuffer, tunes::clearBuffer);
    }

    private void teachSomething() {
        clear();
        type(damaged(tuneText(0)));
        lookAtText();
        decodeSomething();
        int message = someMessage();
        same(2, "teach(" + message + ")", () -> model.teach(message), () -> tunes.teach(message));
    }

    private void decodeSomething() {
        int key = about(0, 6);
        same(25, "decode(" + key + ", 0)", () -> model.decode(key, 0), () -> tunes.decode(key, 0));
        same(25, "decode(" + key + ", 1)", () -> model.decode(key, 1), () -> tunes.decode(key, 1));
        int way = about(0, 1);
        same(25, "decode(" + key + ", " + way + ")", () -> model.decode(key, way), () -> tunes.decode(key, way));
        same(26, "keyOf()", model::keyOf, tunes::keyOf);
    }

    private void decodeKnownTune() {
        int message = below(20);
        if (model.now.tunes[message] != null) {
            clear();
            int key = below(7);
            type(Model.shifted(model.now.tunes[message], key));
            decodeSomething();
            same(25, "decode(" + key + ", 0)", () -> model.decode(key, 0), () -> tunes.decode(key, 0));
            same(25, "decode(" + key + ", 1)", () -> model.decode(key, 1), () -> tunes.decode(key, 1));
        }
    }

    private void playSomething() {
        clear();
        type(damaged(eveningText()));
        lookAtText();
        same(15, "play()", model::play, tunes::play);
        same(16, "stopped(0)", () -> model.stopped(0), () -> tunes.stopped(0));
        int what = about(0, 1);
        same(16, "stopped(" + what + ")", () -> model.stopped(what), () -> tunes.stopped(what));
    }

    private void changeSomething() {
        int message = someMessage();
        int room = about(0, 5);
        switch (below(14)) {
            case 0:
                same(3, "forget(" + message + ")", () -> model.forget(message), () -> tunes.forget(message));
                break;
            case 1:
                int key = style == 2 ? about(0, 1) : about(0, 6);
                same(4, "key(" + key + ")", () -> model.key(key), () -> tunes.key(key));
                break;
            case 2:
            case 3:
                same(5, "tell(" + room + ")", () -> model.tell(room), () -> tunes.tell(room));
                break;
            case 4:
                int floor = about(0, 2);
                boolean isAwake = random.nextBoolean();
                same(6, "lookout(" + floor + ", " + isAwake + ")",
                    () -> model.lookout(floor, isAwake), () -> tunes.lookout(floor, isAwake));
                break;
            case 5:
                int master = about(0, 2);
                same(7, "ban(" + master + ", " + message + ")",
                    () -> model.ban(master, message), () -> tunes.ban(master, message));
                break;
            case 6:
                same(8, "bell()", model::bell, tunes::bell);
                break;
            case 7:
                int setting = about(0, 1);
                int value = about(0, setting == 0 ? 2 : 9);
                same(9, "set(" + setting + ", " + value + ")",
                    () -> model.set(setting, value), () -> tunes.set(setting, value));
                break;
            default:
                same(10, "whistle(" + room + ", " + message + ")",
                    () -> model.whistle(room, message), () -> tunes.whistle(room, message));
        }
    }

    private void goBack() {
        switch (below(4)) {
            case 0:
                same(18, "keep()", model::keep, tunes::keep);
                break;
            case 1:
                same(19, "restore()", model::restore, tunes::restore);
                break;
            default:
                same(17, "undo()", model::undo, tunes::undo);
        }
    }

    private void lookAround() {
        int message = someMessage();
        int room = about(0, 5);
        int what = about(0, 5);
        int place = about(0, 7);
        int number = about(0, 13);
        int mask = about(0, 3);
        same(20, "message(" + message + ", " + mask + ")",
            () -> model.message(message, mask), () -> tunes.message(message, mask));
        same(21, "note(" + message + ", " + place + ")",
            () -> model.note(message, place), () -> tunes.note(message, place));
        same(22, "room(" + room + ", " + what + ")", () -> model.room(room, what), () -> tunes.room(room, what));
        same(23, "latest(" + what + ")", () -> model.latest(what), () -> tunes.latest(what));
        same(24, "count(" + number + ")", () -> model.count(number), () -> tunes.count(number));
        same(27, "whyNot(" + room + ", " + message + ")",
            () -> model.whyNot(room, message), () -> tunes.whyNot(room, message));
        same(28, "ifWhistled(" + room + ", " + message + ", " + mask + ")",
            () -> model.ifWhistled(room, message, mask), () -> tunes.ifWhistled(room, message, mask));
        same(29, "bestRoom(" + message + ")", () -> model.bestRoom(message), () -> tunes.bestRoom(message));
        same(30, "bits of understoodShare()", () -> Double.doubleToLongBits(model.understoodShare()),
            () -> Double.doubleToLongBits(tunes.understoodShare()));
    }

    private void act() {
        while (calls < CALLS) {
            int luck = below(20);
            if (luck < 2) {
                teachSomething();
            } else if (luck < 4) {
                playSomething();
            } else if (luck < 5) {
                decodeKnownTune();
            } else if (luck < 6) {
                int code = about(33, 126);
                same(11, "append(" + code + ")", () -> model.append(code), () -> tunes.append(code));
            } else if (luck < 8) {
                goBack();
            } else if (luck < 10) {
                lookAround();
            } else {
                changeSomething();
            }
            same(31, "digest()", model::digest, tunes::digest);
        }
    }

    private static boolean canRefuse(int promise) {
        return promise != 8 && promise != 18 && (promise < 12 || promise > 14) && promise < 30;
    }

    public static void main(String[] args) {
        for (int run = 0; run < RUNS; run++) {
            new ModelTests(run).act();
        }
        for (int promise = 2; promise <= 31; promise++) {
            if (answered[promise] < 100 || canRefuse(promise) && refused[promise] < 100) {
                wrong++;
                System.out.println("promise " + promise + " was hardly tried");
            }
        }
        System.out.println(wrong == 0 ? "the class and the model agree" : wrong + " answers differ");
        if (wrong != 0) {
            System.exit(1);
        }
    }
}
