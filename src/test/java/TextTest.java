/** Promises 14 to 18: the text buffer, how texts are read, what is foreseen, and what phrases match. */
public final class TextTest {
    private static final String[] WAYS = {"north", "east", "south", "west", "up", "down"};
    private static final String[] NOUNS = {"box", "lamp", "key", "door", "coin", "rope", "book", "bell"};
    private static final String[] ADJECTIVES = {"", "red ", "old ", "big "};

    public static void main(String[] args) {
        append();
        appendTooMuch();
        goodTexts();
        faults();
        everyCut();
        emptied();
        foresee();
        matching();
        matchingFaults();
        faultPosition();
        Check.end();
    }

    private static Game played() {
        Game w = new Game();
        w.begin(w.addRoom(true));
        return w;
    }

    private static void append() {
        Game w = new Game();
        Check.due("four characters", 4, () -> w.append(Check.packed("look")));
        Check.due("zeros are left out", 5, () -> w.append('a'));
        Check.due("zeros are left out", 6, () -> w.append('a' << 24));
        Check.due("zeros are left out", 8, () -> w.append('a' << 24 | 'b' << 8));
        Check.due("zeros are left out", 10, () -> w.append('a' << 16 | 'b'));
        Check.due("the least and the greatest", 12, () -> w.append(32 << 8 | 126));
        for (int shift = 0; shift < 32; shift += 8) {
            final int at = shift;
            for (int wrong : new int[] {1, 10, 31, 127, 128, 200, 255}) {
                Check.refused("append " + wrong, w, Check.ARGUMENT, () -> w.append(wrong << at));
                int others = 0x20202020 & ~(255 << at);
                Check.refused("append " + wrong, w, Check.ARGUMENT, () -> w.append(wrong << at | others));
            }
        }
        for (int wrong : new int[] {0, -1, Integer.MIN_VALUE, Integer.MAX_VALUE}) {
            Check.refused("append " + wrong, w, Check.ARGUMENT, () -> w.append(wrong));
        }
        Game p = played();
        p.append('w' << 24);
        p.append('a' << 8);
        p.append('i' << 16 | 't');
        Check.due("from the highest to the lowest byte", 1, p::command);
    }

    private static void appendTooMuch() {
        Game w = played();
        for (int i = 1; i < 20; i++) {
            final int n = i;
            Check.due("append", 4 * n, () -> w.append(Check.packed("up. ")));
        }
        Check.due("append", 79, () -> w.append(Check.packed("loo")));
        Check.refused("81 characters", w, Check.STATE, () -> w.append(Check.packed("k.")));
        Check.refused("81 characters and a wrong one", w, Check.ARGUMENT, () -> w.append(1 << 24 | Check.packed("k.")));
        Check.due("80 characters", 80, () -> w.append('k'));
        Check.refused("81 characters", w, Check.STATE, () -> w.append('.'));
        Check.due("a full text is read", 0, w::command);
        Check.due("it has no fault", -1, w::faultPosition);
        Check.due("empty again", 4, () -> w.append(Check.packed("look")));
    }

    /** Texts without a fault, in a world where nothing is there: how each one ends. */
    private static void goodTexts() {
        Game w = played();
        Check.says(w, "look", "done 1");
        Check.says(w, "wait", "done 1");
        for (String way : WAYS) {
            Check.says(w, way, "done 0, 9 -1 0");
            Check.says(w, "go " + way, "done 0, 9 -1 0");
        }
        Check.says(w, "take all", "done 0, 5 -1 0");
        Check.says(w, "drop all", "done 0, 5 -1 0");
        for (String adjective : ADJECTIVES) {
            for (String noun : NOUNS) {
                goodTextsWith(adjective + noun);
            }
        }
        Check.says(w, "look. wait. look. go up. wait", "done 3, 9 -1 3");
        StringBuilder ups = new StringBuilder("up");
        for (int i = 1; i < 20; i++) {
            ups.append(". up");
        }
        Check.says(w, ups.toString(), "done 0, 9 -1 0");
    }

    private static void goodTextsWith(String phrase) {
        Game w = played();
        for (String verb : new String[] {"take", "drop", "open", "close", "light", "quench"}) {
            Check.says(w, verb + " " + phrase, "done 0, 1 -1 0");
        }
        Check.says(w, "put " + phrase + " in lamp", "done 0, 1 -1 0");
        Check.says(w, "put lamp on " + phrase, "done 0, 1 -1 0");
        Check.says(w, "lock key with " + phrase, "done 0, 1 -1 0");
        Check.says(w, "unlock " + phrase + " with box", "done 0, 1 -1 0");
    }

    private static void faults() {
        Game w = played();
        Object[][] faults = {{"x", 0}, {" ", 0}, {" look", 0}, {"Look", 0}, {"lOok", 1}, {"loom", 3}, {"lo", 2},
            {"look ", 4}, {"look.", 5}, {"look. ", 6}, {"look.  wait", 6}, {"look.wait", 5}, {"look wait", 4},
            {"look..", 5}, {"lookx", 4}, {"waiting", 4}, {"go", 2}, {"go ", 3}, {"go look", 3}, {"go  up", 3},
            {"go north.", 9}, {"go northeast", 8}, {"u", 1}, {"un", 2}, {"us", 1}, {"take", 4}, {"take ", 5},
            {"take the", 5}, {"take al", 7}, {"take all.", 9}, {"take all box", 8}, {"take a lamp", 6},
            {"take red", 8}, {"take red ", 9}, {"take red all", 9}, {"take red old box", 9}, {"take redbox", 8},
            {"take b", 6}, {"take be", 7}, {"take bo", 7}, {"take boo", 8}, {"take bi", 7}, {"take box in", 8},
            {"drop all", -1}, {"drop big all", 9}, {"open all", 5}, {"close all", 6}, {"light all", 6},
            {"quench all", 7}, {"put all", 4}, {"lock all", 5}, {"unlock all", 7}, {"put box", 7}, {"put box ", 8},
            {"put box i", 9}, {"put box in", 10}, {"put box in ", 11}, {"put box in all", 11}, {"put box. ", 7},
            {"put box with", 8}, {"put box at", 8}, {"put box into", 10}, {"put box in red", 14},
            {"lock box in key", 9}, {"lock box w", 10}, {"lock box wi key", 11}, {"lock box with", 13},
            {"lock box with ", 14}, {"lock box with key ", 17}, {"unlock", 6}, {"unlock box on key", 11},
            {"open box with key", 8}, {"l", 1}, {"li", 2}, {"lx", 1}, {"d", 1}, {"do", 2}, {"dr", 2}, {"dx", 1},
            {"wait. x", 6}, {"wait. wait. loo", 15}, {"look~", 4}, {"w", 1}, {"we", 2}, {"wes", 3}, {"wa", 2},
            {"downn", 4}, {"down up", 4}, {"put", 3}, {"up. put up", 8}};
        for (Object[] f : faults) {
            int position = (Integer) f[1];
            Check.says(w, (String) f[0], position < 0 ? "done 0, 5 -1 0" : "fault " + position);
        }
        Check.due("an empty text", Check.ARGUMENT, w::command);
        Check.due("an empty text ends too early", 0, w::faultPosition);
        StringBuilder ups = new StringBuilder();
        for (int i = 0; i < 20; i++) {
            ups.append("up. ");
        }
        Check.says(w, ups.toString(), "fault 80");
    }

    /** A text that is cut ends too early, and a wrong sign behind the cut is the fault. */
    private static void everyCut() {
        String[] texts = {"go north. take all. drop red box", "put old lamp on big book. look. wait",
            "unlock door with key. quench bell", "lock rope with coin. close key. light lamp", "put box in red coin"};
        for (String text : texts) {
            for (int cut = 0; cut < text.length(); cut++) {
                Game w = played();
                String start = text.substring(0, cut);
                boolean isWhole = cut > 1 && (text.startsWith(". ", cut) || cut == text.length());
                if (!isWhole) {
                    Check.type(w, start);
                    Check.due("\"" + start + "\"", Check.ARGUMENT, w::command);
                    Check.dueValue("\"" + start + "\" ends too early", cut, w.faultPosition());
                }
                Check.says(w, start + "~look", "fault " + cut);
            }
        }
    }

    private static void emptied() {
        Game w = new Game();
        w.addRoom(true);
        Check.type(w, "look. x");
        Check.refused("command while not played", w, Check.STATE, w::command);
        Check.refused("foresee while not played", w, Check.STATE, w::foresee);
        Check.refused("matching while not played", w, Check.STATE, w::matching);
        w.begin(0);
        Check.due("a text with a fault", Check.ARGUMENT, w::command);
        Check.due("is gone", 0, () -> w.count(5));
        Check.due("nothing was carried out", 0, () -> w.count(7));
        Check.type(w, "wait. up. wait");
        Check.due("a text that is refused", 1, w::command);
        Check.due("is gone", 0, () -> w.count(5));
        Check.type(w, "red box");
        Check.due("a phrase", 0, w::matching);
        Check.due("is gone", 0, () -> w.count(5));
        Check.type(w, "red bux");
        Check.due("a phrase with a fault", Check.ARGUMENT, w::matching);
        Check.due("is gone", 0, () -> w.count(5));
    }

    private static void foresee() {
        Game w = new Game();
        w.addRoom(true);
        int box = w.addThing(1, 0, 0, 1);
        int lamp = w.addThing(3, 1, 0, 1);
        w.setCapacity(box, 5);
        w.setFuel(lamp, 2);
        w.put(box, 0, 0);
        w.put(lamp, 3, 0);
        w.addDaemon(0, box, 4, false);
        w.begin(0);
        Check.says(w, "up", "done 0, 9 -1 0");
        Check.says(w, "upp", "fault 2");
        Check.type(w, "light lamp. open box. wait. wait. put lamp in box");
        java.util.List<Object> before = Check.picture(w);
        Check.due("foresee up to the refusal", 4, w::foresee);
        Check.due("foresee again", 4, w::foresee);
        Check.dueValue("all stays", before, Check.picture(w));
        Check.due("as it was foreseen", 4, w::command);
        Check.due("the box was closed", 6, () -> w.refusal(0));
        Check.type(w, "look. look");
        Check.due("foresee all", 2, w::foresee);
        Check.type(w, "?");
        Check.refused("foresee a fault", w, Check.ARGUMENT, w::foresee);
        Check.due("the fault position stays", -1, w::faultPosition);
        w.stop();
        Check.refused("foresee while not played", w, Check.STATE, w::foresee);
        Game empty = played();
        Check.refused("foresee nothing", empty, Check.ARGUMENT, empty::foresee);
    }

    private static int match(Game w, String phrase) {
        Check.type(w, phrase);
        return w.matching();
    }

    private static void matching() {
        Game w = new Game();
        w.addRoom(true);
        w.addRoom(false);
        w.connect(0, 0, 1, -1);
        for (int thing = 0; thing < 16; thing++) {
            w.addThing(thing == 3 ? 4 : thing == 15 ? 1 : 0, thing % 8, thing < 8 ? 0 : thing % 4, 1);
            if (thing != 3) {
                w.put(thing, thing < 12 ? 0 : 3, 0);
            }
        }
        w.connect(0, 1, 0, 3);
        w.begin(0);
        for (int noun = 0; noun < 8; noun++) {
            final String word = NOUNS[noun];
            final int lower = 1 << noun;
            final int upper = 256 << noun;
            final int both = lower | upper;
            Check.due(word, both, () -> match(w, word));
            for (int adjective = 1; adjective < 4; adjective++) {
                final String phrase = ADJECTIVES[adjective] + word;
                final int due = noun % 4 == adjective ? upper : 0;
                Check.due(phrase, due, () -> match(w, phrase));
            }
        }
        Check.says(w, "north", "done 1");
        Check.due("only what is visible", 0, () -> match(w, "box"));
        Check.due("only what is visible", 1 << 12, () -> match(w, "coin"));
        Check.due("no door in the dark", 0, () -> match(w, "door"));
        Check.due("no turn", 1, () -> w.count(3));
        w.stop();
        Check.type(w, "box");
        Check.refused("matching while not played", w, Check.STATE, w::matching);
    }

    private static void matchingFaults() {
        Game w = played();
        Object[][] faults = {{"", 0}, {"all", 0}, {"look", 1}, {"red", 3}, {"red ", 4}, {"red all", 4}, {"box ", 3},
            {"boxes", 3}, {"box. look", 3}, {"red old box", 4}, {"bo", 2}, {"bob", 2}, {"lamp in box", 4}, {" box", 0},
            {"lo", 1}, {"do", 2}, {"x", 0}};
        for (Object[] f : faults) {
            Check.type(w, (String) f[0]);
            Check.due("matching \"" + f[0] + "\"", Check.ARGUMENT, w::matching);
            Check.due("its fault", f[1], w::faultPosition);
            Check.due("the text is gone", 0, () -> w.count(5));
        }
    }

    private static void faultPosition() {
        Game w = new Game();
        w.addRoom(true);
        Check.type(w, "loox");
        Check.due("command while not played", Check.STATE, w::command);
        Check.due("does not count", -1, w::faultPosition);
        w.begin(0);
        Check.due("foresee", Check.ARGUMENT, w::foresee);
        Check.due("does not count", -1, w::faultPosition);
        Check.due("command", Check.ARGUMENT, w::command);
        Check.due("counts", 3, w::faultPosition);
        Check.type(w, "bell");
        Check.due("matching", 0, w::matching);
        Check.due("counts", -1, w::faultPosition);
        Check.type(w, "bell.");
        Check.due("matching", Check.ARGUMENT, w::matching);
        Check.due("counts", 4, w::faultPosition);
        Check.says(w, "up", "done 0, 9 -1 0");
        Check.due("a refusal is no fault", -1, w::faultPosition);
        Check.says(w, "up.", "fault 3");
        Check.type(w, "wait");
        Check.due("foresee", 1, w::foresee);
        Check.due("stays", 3, w::faultPosition);
        w.stop();
        Check.due("command while not played", Check.STATE, w::command);
        Check.due("matching while not played", Check.STATE, w::matching);
        Check.due("stays", 3, w::faultPosition);
        w.begin(0);
        Check.due("command", 1, w::command);
        Check.due("no fault", -1, w::faultPosition);
    }
}
