/** The sentences of the document's terms on numbers, tunes and messages, a test for each. */
final class TuneSentences extends Sentences {
    private static final String NAMES = "cdefgah";

    static void run() {
        numbers();
        notes();
        lengths();
        shapes();
        whistledByKey();
        items();
        depths();
        textsThatAreNoTunes();
        messages();
        oneOfAShape();
        tree();
        decoding();
        bothWays();
    }

    private static void numbers() {
        sentence("What it is", "An object is used for at most 512 calls after it has been made");
        for (int night = 1; night <= 511; night++) {
            due("bell()", night);
        }
        due("count(0)", 511);
        another();
        teach(0, "cd");
        times(503, "whistle(0, 0)");
        due("room(1, 4)", 503);
        due("message(0, 2)", 503);
        due("message(0, 3)", 3 * 503);
        due("count(8)", 503);
        due("understoodShare()", "1.0");

        sentence("Terms", "All numbers are integers, but for a share.");
        teach(0, "cd");
        answer("key(1)");
        answer("tell(1)");
        answer("tell(2)");
        answer("tell(4)");
        due("whistle(0, 0)", 1);
        due("whistle(3, 0)", 2);
        due("understoodShare()", 3.0 / 8.0);

        sentence("Exceptions", "The constants: `NONE = -1`: There is nothing to return.");
        due("latest(0)", WhistleTunes.NONE);
        due("latest(0)", -1);
    }

    // ---- tunes

    private static void notes() {
        sentence("Tunes", "There are 7 notes, 0 to 6, written as \"c\", \"d\", \"e\", \"f\", \"g\", \"a\", \"h\".");
        for (int note = 0; note < 7; note++) {
            another();
            char name = NAMES.charAt(note);
            teach(note, "cc" + name + name);
            tune(note, 0, 0, note, note);
            teach(note, "" + name + name + "c");
            tune(note, note, note, 0);
        }
        nextSigns("tuneError()", "", NAMES + "(");
    }

    private static void lengths() {
        sentence("Tunes", "A tune has 2 to 8 notes.");
        String[] tunes = {"cd", "cde", "cdef", "cdefg", "cdefga", "cdefgah", "cdefgahc", "(c)2", "(c)3", "((c)2)2", "(cd)3ef",
            "((cd)2)2", "(((c)2)2)2", "g(h)3(cd)2"};
        int[] sizes = {2, 3, 4, 5, 6, 7, 8, 2, 3, 4, 8, 8, 8, 8};
        for (int index = 0; index < tunes.length; index++) {
            another();
            type(tunes[index]);
            due("teach(4)", sizes[index]);
            due("message(4, 0)", sizes[index]);
        }
        String[] others = {"c", "h", "cdefgahcd", "cdefgahcde", "((c)3)3", "(cd)3efg", "((cd)2)3", "(((ccccccc)3)3)3",
            "(((c)2)2)3", "g(h)3(cd)2e", "((c)2d)3", "(((h)3)3)3"};
        for (String other : others) {
            another();
            type(other);
            refused("teach(4)", STATE);
            due("message(4, 0)", 0);
        }
    }

    private static void shapes() {
        sentence("Tunes", "Its shape is what it becomes, when so much is added to each note, modulo 7, that its first note is 0.");
        for (int first = 0; first < 49; first++) {
            for (int second = 0; second < 49; second++) {
                boolean isAlike = (first % 7 - first / 7 + 7) % 7 == (second % 7 - second / 7 + 7) % 7;
                another();
                teach(0, "" + NAMES.charAt(first / 7) + NAMES.charAt(first % 7));
                type("" + NAMES.charAt(second / 7) + NAMES.charAt(second % 7));
                due("teach(1)", isAlike ? STATE : "2");
            }
        }
        another();
        teach(0, "egcd");
        for (String alike : new String[] {"egcd", "fade", "ghef", "acfg", "hdga", "ceah", "dfhc"}) {
            type(alike);
            refused("teach(1)", STATE);
        }
        String[] others = {"egce", "dcge", "egcdd", "egc"};
        for (int index = 0; index < others.length; index++) {
            type(others[index]);
            due("teach(" + (index + 1) + ")", others[index].length());
        }
    }

    private static void whistledByKey() {
        sentence("Tunes", "To whistle a tune by a key k, 0 to 6, is to whistle each note and k, together, modulo 7.");
        String[] whistled = {"gch", "adc", "hed", "cfe", "dgf", "eag", "fha"};
        for (int key = 0; key < 7; key++) {
            another();
            teach(5, "gch");
            type(whistled[key]);
            for (int other = 0; other < 7; other++) {
                due("decode(" + other + ", 0)", other == key ? 5 : -1);
                due("decode(" + other + ", 1)", other == key ? 5 : -1);
            }
            due("keyOf()", key);
        }
    }

    private static void becomes(String text, int... notes) {
        another();
        type(text);
        due("teach(9)", notes.length);
        tune(9, notes);
    }

    private static void items() {
        sentence("Tunes", "A tune as a text is one or more items: a note, or \"(\", one or more items, \")\", and \"2\" or \"3\""
            + " (so often, one behind the other).");
        becomes("(cd)2", 0, 1, 0, 1);
        becomes("(cd)3", 0, 1, 0, 1, 0, 1);
        becomes("h(de)2f", 6, 1, 2, 1, 2, 3);
        becomes("(c)2(d)3", 0, 0, 1, 1, 1);
        becomes("(c(d)2)2", 0, 1, 1, 0, 1, 1);
        becomes("(c(d)2e)2", 0, 1, 1, 2, 0, 1, 1, 2);
        becomes("((c)2(d)2)2", 0, 0, 1, 1, 0, 0, 1, 1);
        becomes("((c)3)2", 0, 0, 0, 0, 0, 0);
        becomes("((a)2h)2c", 5, 5, 6, 5, 5, 6, 0);
        becomes("(((a)2)2)2", 5, 5, 5, 5, 5, 5, 5, 5);
        for (String incomplete : new String[] {"", "(", "(c", "(cd)", "c(d", "((cd)2", "((cd)2)"}) {
            another();
            type(incomplete);
            due("tuneError()", incomplete.length());
            refused("teach(9)", ARGUMENT);
        }
        nextSigns("tuneError()", "c", NAMES + "(");
        nextSigns("tuneError()", "(", NAMES + "(");
        nextSigns("tuneError()", "(c", NAMES + "()");
        nextSigns("tuneError()", "(c)", "23");
        nextSigns("tuneError()", "(c)2", NAMES + "(");
        nextSigns("tuneError()", "((c)3", NAMES + "()");
        nextSigns("tuneError()", "((c)3)", "23");
        nextSigns("tuneError()", "((c)3)2", NAMES + "(");
    }

    private static void depths() {
        sentence("Tunes", "Groups are at most 3 deep, one in another; a fourth \"(\" within three is a syntax error.");
        for (String tune : new String[] {"(((c)2)2)2", "(c)2(c)2(c)2(c)2", "((c)2(c)2)2"}) {
            another();
            type(tune);
            due("tuneError()", tune.length());
            due("teach(0)", 8);
        }
        another();
        type("((((c)2)2)2)2");
        due("tuneError()", 3);
        refused("teach(0)", ARGUMENT);
        type("0=((((c)2)2)2)2");
        due("firstError()", 5);
        refused("play()", ARGUMENT);
        nextSigns("tuneError()", "((", NAMES + "(");
        nextSigns("tuneError()", "(((", NAMES);
        nextSigns("tuneError()", "(((c", NAMES + ")");
        nextSigns("tuneError()", "(((c)2", NAMES + "()");
        nextSigns("tuneError()", "(((c)2(", NAMES);
        nextSigns("tuneError()", "(c)2(c(", NAMES + "(");
        nextSigns("firstError()", "7=((", NAMES + "(");
        nextSigns("firstError()", "7=(((", NAMES);
        nextSigns("firstError()", "7=(((c", NAMES + ")");
        nextSigns("firstError()", "7=(((c)2)2)2,17=((", NAMES + "(");
        nextSigns("firstError()", "7=(((c)2)2)2,17=(((", NAMES);
    }

    private static void textsThatAreNoTunes() {
        sentence("Tunes", "A text of more than 8 notes, or of fewer than 2, is no syntax error, but no tune.");
        for (String text : new String[] {"c", "ccccccccc", "(((c)3)3)3", "(((ccc)3)3)3(((ddd)3)3)3"}) {
            another();
            teach(0, "cc");
            teach(1, "cccccccc");
            type(text);
            due("tuneError()", text.length());
            refused("teach(3)", STATE);
            for (int key = 0; key < 7; key++) {
                due("decode(" + key + ", 0)", -1);
                due("decode(" + key + ", 1)", -1);
            }
            due("keyOf()", -1);
            type("3=" + text);
            due("firstError()", text.length() + 2);
            due("play()", 0);
            due("stopped(1)", 3);
            due("message(3, 0)", 0);
        }
    }

    // ---- messages

    private static void messages() {
        sentence("Messages", "There are 20 messages, 0 to 19;");
        range("message(#, 0)", 0, 19, INDEX);
        type("19=");
        due("firstError()", 3);
        type("20=");
        due("firstError()", 1);

        sentence("Messages", "those from 12 on are alarms.");
        for (int message = 0; message < 20; message++) {
            teach(message, "c" + NAMES.charAt(message % 7) + NAMES.charAt(message / 7));
            due("ifWhistled(0, " + message + ", 3)", message < 12 ? 0 : 14);
        }
        due("whistle(5, 11)", 3);
        due("latest(5)", 0);
        due("count(6)", 0);
        due("whistle(5, 12)", 3);
        due("latest(5)", 28);
        due("count(6)", 3);
        answer("bell()");
        due("whistle(5, 19)", 3);
        due("count(6)", 3);

        sentence("Messages", "A message has a tune, or none (as at first).");
        for (int message = 0; message < 20; message++) {
            due("message(" + message + ", 0)", 0);
            due("note(" + message + ", 0)", -1);
        }
        teach(7, "cd");
        due("message(6, 0)", 0);
        due("message(7, 0)", 2);
        due("message(8, 0)", 0);
    }

    private static void oneOfAShape() {
        sentence("Messages", "No two messages have tunes of one shape.");
        teach(0, "cde");
        teach(19, "ced");
        type("egf");
        refused("teach(0)", STATE);
        refused("teach(18)", STATE);
        type("efg");
        refused("teach(19)", STATE);
        refused("teach(1)", STATE);
        due("teach(0)", 3);
        tune(0, 2, 3, 4);
        type("1=gah");
        due("play()", 0);
        tune(1);
        answer("forget(0)");
        type("gah");
        due("teach(1)", 3);
        type("cde");
        refused("teach(0)", STATE);
        answer("undo()");
        due("teach(0)", 3);
        type("hcd");
        refused("teach(1)", STATE);
        answer("undo()");
        answer("undo()");
        refused("teach(2)", STATE);
    }

    private static void tree() {
        sentence("Messages", "The shapes lie in a tree of notes: from its root on, a node for each note of a shape, one below the"
            + " other; shapes that begin alike have these nodes together.");
        String[] tunes = {"cd", "cde", "gahc", "ce", "dc", "aa", "ddefgahc", "ddefgahd"};
        int[] nodes = {2, 3, 4, 5, 6, 7, 13, 14};
        for (int index = 0; index < tunes.length; index++) {
            teach(index, tunes[index]);
            due("count(3)", nodes[index]);
        }
        int[] forgotten = {1, 2, 6, 7, 3};
        int[] left = {14, 12, 11, 5, 4};
        for (int index = 0; index < forgotten.length; index++) {
            answer("forget(" + forgotten[index] + ")");
            due("count(3)", left[index]);
        }
        answer("undo()");
        due("count(3)", 5);

        sentence("Messages", "The nodes of the tree are counted without the root.");
        due("count(3)", 0);
        teach(3, "hh");
        due("count(3)", 2);
        teach(3, "cdefgahc");
        due("count(3)", 8);
        answer("forget(3)");
        due("count(3)", 0);
        another();
        for (int message = 0; message < 20; message++) {
            teach(message, "c" + NAMES.charAt(message % 7) + NAMES.charAt(message / 7) + "ccccc");
        }
        due("count(3)", 1 + 7 + 20 * 6);
    }

    private static void decodes(String text, int key, int want) {
        type(text);
        due("decode(" + key + ", 0)", want);
        due("decode(" + key + ", 1)", want);
    }

    private static void decoding() {
        sentence("Messages", "A tune that is whistled is decoded by a key: each note less the key, modulo 7; if that is the tune of"
            + " a message (not its shape alone), this is the message; otherwise it tells nothing by this key.");
        teach(3, "efe");
        teach(4, "efefg");
        teach(19, "hc");
        decodes("efe", 0, 3);
        decodes("efe", 1, -1);
        decodes("efe", 6, -1);
        decodes("fgf", 1, 3);
        decodes("fgf", 0, -1);
        decodes("cdc", 5, 3);
        decodes("cdc", 0, -1);
        decodes("ded", 6, 3);
        decodes("hc", 0, 19);
        decodes("cd", 1, 19);
        decodes("ah", 6, 19);
        decodes("cd", 0, -1);
        decodes("eff", 0, -1);
        decodes("ege", 0, -1);
        decodes("efef", 0, -1);
        decodes("efefg", 0, 4);
        decodes("efefgg", 0, -1);
        decodes("ef", 0, -1);
        decodes("ef", 3, 19);
    }

    private static String whistled(String tune, int key) {
        StringBuilder out = new StringBuilder();
        for (char name : tune.toCharArray()) {
            out.append(NAMES.charAt((NAMES.indexOf(name) + key) % 7));
        }
        return out.toString();
    }

    private static void bothWays() {
        sentence("Messages", "This is found by going down the tree with the shape, and a second time by going through the messages;"
            + " both agree.");
        String[] tunes = {"ce", "cde", "hh", "gfe", "ced"};
        for (int text = 0; text < 7 * 7 * 8; text++) {
            String notes = "" + NAMES.charAt(text % 7) + NAMES.charAt(text / 7 % 7) + (text / 49 < 7 ? NAMES.charAt(text / 49) : "");
            another();
            for (int message = 0; message < tunes.length; message++) {
                teach(message * 4, tunes[message]);
            }
            for (int key = 0; key < 7; key++) {
                int told = -1;
                for (int message = 0; message < tunes.length; message++) {
                    told = whistled(tunes[message], key).equals(notes) ? message * 4 : told;
                }
                decodes(notes, key, told);
            }
        }
    }
}
