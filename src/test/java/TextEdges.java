import java.util.ArrayList;
import java.util.HashSet;
import java.util.List;
import java.util.Set;

/** The part Commands of the description, and the promises 14 to 18. */
final class TextEdges extends Edges {
    private static final String[] DIRECTIONS = {"north", "east", "south", "west", "up", "down"};
    private static final String[] NOUNS = {"box", "lamp", "key", "door", "coin", "rope", "book", "bell"};
    private static final String[] ADJECTIVES = {"", "red ", "old ", "big "};

    private static final List<String> PHRASES = allPhrases();
    private static final List<String> COMMANDS = allCommands();
    private static final Set<String> WHOLE_COMMANDS = new HashSet<>(COMMANDS);
    private static final Set<String> COMMAND_STARTS = startsOf(COMMANDS);
    private static final Set<String> PHRASE_STARTS = startsOf(PHRASES);

    private static List<String> allPhrases() {
        List<String> all = new ArrayList<>();
        for (String adjective : ADJECTIVES) {
            for (String noun : NOUNS) {
                all.add(adjective + noun);
            }
        }
        return all;
    }

    /** Each command that there is, written out. */
    private static List<String> allCommands() {
        List<String> all = new ArrayList<>(List.of("look", "wait", "take all", "drop all"));
        for (String direction : DIRECTIONS) {
            all.add(direction);
            all.add("go " + direction);
        }
        for (String phrase : PHRASES) {
            for (String verb : List.of("take ", "drop ", "open ", "close ", "light ", "quench ")) {
                all.add(verb + phrase);
            }
            for (String second : PHRASES) {
                all.add("put " + phrase + " in " + second);
                all.add("put " + phrase + " on " + second);
                all.add("lock " + phrase + " with " + second);
                all.add("unlock " + phrase + " with " + second);
            }
        }
        return all;
    }

    private static Set<String> startsOf(List<String> texts) {
        Set<String> all = new HashSet<>();
        for (String text : texts) {
            for (int length = 0; length <= text.length(); length++) {
                all.add(text.substring(0, length));
            }
        }
        return all;
    }

    /** The fault position of a text, -1 if it has none, found by looking it up letter by letter. */
    private static int faultOf(String text) {
        int start = 0;
        while (true) {
            int end = start;
            while (end < text.length() && COMMAND_STARTS.contains(text.substring(start, end + 1))) {
                end++;
            }
            boolean isWhole = WHOLE_COMMANDS.contains(text.substring(start, end));
            if (!isWhole) {
                return end;
            }
            if (end == text.length()) {
                return -1;
            }
            for (char c : new char[] {'.', ' '}) {
                if (end == text.length() || text.charAt(end) != c) {
                    return end;
                }
                end++;
            }
            start = end;
        }
    }

    /** Many texts, each read as commands, by as few objects as their calls allow. */
    private static final class Readings {
        private Game game = darkRoom();

        void dueFault(String text, int want) {
            if (game.calls() + text.length() / 4 + 3 > Game.CALLS) {
                game = darkRoom();
            }
            game.type(text);
            Object answer = Check.answer(game::command);
            int position = game.faultPosition();
            same("the fault position of \"" + text + "\"", want, position);
            same("\"" + text + "\" is refused for its fault", want >= 0, answer == ARGUMENT);
        }
    }

    private static Game darkRoom() {
        Game g = rooms(false);
        g.begin(0);
        return g;
    }

    /** A room whose exit up leads to itself. */
    private static Game loop() {
        Game g = rooms(true);
        g.connect(0, UP, 0, -1);
        g.begin(0);
        return g;
    }

    private static String ups(int commands) {
        StringBuilder text = new StringBuilder();
        for (int i = 0; i < commands; i++) {
            text.append(i == 0 ? "up" : ". up");
        }
        return text.toString();
    }

    @Sentence(of = "Description, Commands", says = "A text consists of one or more commands with \". \" between two")
    static void oneOrMoreCommands() {
        Game none = loop();
        due(ARGUMENT, none::command);
        due(0, none::faultPosition);
        for (int commands = 1; commands <= 20; commands++) {
            says(loop(), ups(commands), "done " + commands);
        }
        for (String between : new String[] {".", " ", "", ".  ", " . ", ", ", "; ", "..", ". . "}) {
            Game g = loop();
            int same = between.startsWith(". ") ? 2 : between.startsWith(".") ? 1 : 0;
            says(g, "up" + between + "up", "fault " + (2 + same));
            due(0, () -> g.count(7));
        }
        says(loop(), "up. ", "fault 4");
        says(loop(), ". up", "fault 0");
    }

    @Sentence(of = "Description, Commands", says = "A text consists of one or more commands with \". \" between two")
    static void theFullText() {
        // 20 commands and the sign for a further one fill the buffer.
        Game g = loop();
        says(g, ups(20) + ". ", "fault 80");
        due(0, () -> g.count(7));
        says(g, ups(18) + ". look", "done 19");
        says(g, ups(17) + ". go up. up", "done 19");
        says(g, ups(19) + ". wait", "done 20");
        says(loop(), ups(19) + ". wai", "fault 79");
        says(loop(), ups(19) + ". waix", "fault 79");
    }

    @Sentence(of = "Description, Commands", says = "A command is \"look\"; \"wait\"; a direction, or \"go \" and a")
    static void eachCommand() {
        Readings readings = new Readings();
        for (String command : COMMANDS) {
            readings.dueFault(command, -1);
        }
        String[] others = {"take", "all", "go", "north east", "go all", "look box", "wait all", "go look", "open all",
            "close all", "light all", "quench all", "put all in box", "put box in all", "put box with key",
            "put box", "lock box", "lock box in key", "lock box on key", "unlock all with key", "lock box with all",
            "take box with key", "open box with key", "take red", "take red all", "drop old all", "LOOK", "Wait"};
        for (String other : others) {
            readings.dueFault(other, faultOf(other));
            same("\"" + other + "\" has a fault", true, faultOf(other) >= 0);
        }
    }

    @Sentence(of = "Description, Commands", says = "A noun phrase is a noun, possibly with an adjective and a space")
    static void eachPhrase() {
        for (String phrase : PHRASES) {
            Game g = darkRoom();
            due(0, () -> g.match(phrase));
            due(-1, g::faultPosition);
        }
        String[] others = {"", "red", "red ", "red  box", " box", "redbox", "red old box", "old red box", "box red",
            "the box", "boxes", "box ", "all", "red all", "Box", "2"};
        for (String other : others) {
            Game g = darkRoom();
            due(ARGUMENT, () -> g.match(other));
            due(phraseFault(other), g::faultPosition);
        }
    }

    private static int phraseFault(String text) {
        int end = 0;
        while (end < text.length() && PHRASE_STARTS.contains(text.substring(0, end + 1))) {
            end++;
        }
        return end == text.length() && PHRASES.contains(text) ? -1 : end;
    }

    @Sentence(of = "Description, Commands", says = "The fault position of a text is the index of its first character")
    static void theFaultPosition() {
        String[] texts = {"look. wait", "go north. up", "take all. take red box", "drop old lamp. drop all",
            "open big key. close door", "light coin. quench rope", "put red book in bell", "put box on old lamp. west",
            "lock key with door. east", "unlock red coin with big rope", "south. down. go east"};
        Readings readings = new Readings();
        for (String text : texts) {
            for (int cut = 0; cut <= text.length(); cut++) {
                String start = text.substring(0, cut);
                readings.dueFault(start, faultOf(start));
                for (char c = 32; c <= 126; c++) {
                    String wrong = start + c + text.substring(Math.min(text.length(), cut + 1));
                    readings.dueFault(wrong, faultOf(wrong));
                }
            }
        }
    }

    @Sentence(of = "Description, Commands", says = "The fault position of a text is the index of its first character")
    static void endsTooEarly() {
        String[][] texts = {{"", "0"}, {"l", "1"}, {"loo", "3"}, {"look.", "5"}, {"look. ", "6"}, {"go", "2"},
            {"go ", "3"}, {"take ", "5"}, {"take red", "8"}, {"take red ", "9"}, {"put box", "7"}, {"put box ", "8"},
            {"put box i", "9"}, {"put box in", "10"}, {"put box in ", "11"}, {"lock box with", "13"}, {"lock box", "8"},
            {"look", "-1"}, {"lo.", "2"}, {"takes", "4"}, {"x", "0"}, {"lookx", "4"}, {"look.x", "5"},
            {"look. x", "6"}};
        for (String[] text : texts) {
            Game g = darkRoom();
            g.type(text[0]);
            int position = Integer.parseInt(text[1]);
            due(position < 0 ? 0 : ARGUMENT, g::command);
            due(position, g::faultPosition);
        }
    }

    @Sentence(of = "Promise 14: append", says = "Appends up to 4 characters to the text buffer: the bytes of a number")
    static void theBytesThatAreNotZero() {
        for (int set = 1; set < 16; set++) {
            Game g = darkRoom();
            int number = 0;
            int letters = 0;
            for (int position = 0; position < 4; position++) {
                boolean isUsed = (set >> position & 1) != 0;
                number = number << 8 | (isUsed ? "wait".charAt(letters) : 0);
                letters += isUsed ? 1 : 0;
            }
            final int packed = number;
            final int length = letters;
            due(length, () -> g.append(packed));
            if (length < 4) {
                due(4, () -> g.append(Check.packed("wait".substring(length))));
            }
            due(1, g::command);
            due(-1, g::faultPosition);
        }
    }

    @Sentence(of = "Promise 14: append", says = "Returns the new length of the buffer.")
    static void theNewLength() {
        for (int step = 1; step <= 4; step++) {
            Game g = new Game();
            int part = Check.packed("aaaa".substring(0, step));
            for (int length = step; length <= 80; length += step) {
                final int n = length;
                due(n, () -> g.append(part));
                due(n, () -> g.count(5));
            }
        }
        Game again = loop();
        again.say("up");
        due(1, () -> again.append('u'));
    }

    @Sentence(of = "Promise 14: append", says = "Throws `IllegalArgumentException` if a byte is not 0 and not from 32")
    static void eachByte() {
        for (int shift = 0; shift < 32; shift += 8) {
            for (int others : new int[] {0, 0x61616161 & ~(255 << shift)}) {
                for (int b = 0; b < 256; b++) {
                    Game g = new Game();
                    int packed = b << shift | others;
                    int letters = (others == 0 ? 0 : 3) + (b == 0 ? 0 : 1);
                    boolean isGood = (b == 0 || 32 <= b && b <= 126) && letters > 0;
                    due(isGood ? letters : ARGUMENT, () -> g.append(packed));
                    due(isGood ? letters : 0, () -> g.count(5));
                }
            }
        }
    }

    @Sentence(of = "Promise 14: append", says = "Throws `IllegalArgumentException` if a byte is not 0 and not from 32")
    static void wrongBytes() {
        for (int shift = 0; shift < 32; shift += 8) {
            for (int wrong : new int[] {1, 31, 127, 128, 255}) {
                int alone = wrong << shift;
                int withOthers = alone | 0x20202020 & ~(255 << shift);
                refused(ARGUMENT, Edges::made, g -> g.append(alone));
                refused(ARGUMENT, Edges::played, g -> g.append(withOthers));
            }
        }
        refused(ARGUMENT, Edges::played, g -> g.append(0));
        refused(ARGUMENT, Edges::played, g -> g.append(-1));
        refused(ARGUMENT, Edges::played, g -> g.append(MIN));
        refused(ARGUMENT, Edges::played, g -> g.append(MAX));
        // Too long as well, but that is listed later.
        refused(ARGUMENT, () -> filled(80), g -> g.append(0));
        refused(ARGUMENT, () -> filled(80), g -> g.append(31));
        refused(ARGUMENT, () -> filled(77), g -> g.append(0x6161617f));
    }

    private static Game filled(int length) {
        Game g = loop();
        g.type((ups(20) + ". ").substring(0, length));
        return g;
    }

    @Sentence(of = "Promise 14: append", says = "Throws `IllegalStateException` if the buffer would contain more than")
    static void moreThanEighty() {
        int[] letters = {0, 'a', 0x6161, 0x616161, 0x61616161};
        for (int length = 76; length <= 80; length++) {
            for (int added = 1; added <= 4; added++) {
                final int n = length;
                final int more = letters[added];
                if (length + added > 80) {
                    refused(STATE, () -> filled(n), g -> g.append(more));
                } else {
                    due(n + added, () -> filled(n).append(more));
                }
            }
        }
        refused(STATE, () -> filled(79), g -> g.append('a' << 24 | 'b'));
        due(80, () -> filled(79).append('a' << 24));
        due(80, () -> filled(78).append('a' << 24 | 'b'));
    }

    @Sentence(of = "Promise 15: command", says = "Reads the text buffer as a text of commands, which is empty then,")
    static void readsTheText() {
        Game g = loop();
        says(g, "wait. look. up", "done 3");
        due(0, () -> g.count(5));
        says(g, "wait. look. u", "fault 13");
        due(0, () -> g.count(5));
        due(2, () -> g.count(7));
        says(g, "wait. down. wait", "done 1, 9 -1 1");
        due(0, () -> g.count(5));
        due(3, () -> g.count(7));
        due(ARGUMENT, g::command);
        due(0, () -> g.count(5));
    }

    @Sentence(of = "Promise 15: command", says = "Reads the text buffer as a text of commands, which is empty then,")
    static void inTheirOrder() {
        Game g = rooms(true);
        int coin = object(g, COIN, 1, IN_ROOM, 0);
        int box = openBox(g, IN_ROOM, 0);
        g.begin(0);
        says(g, "take coin. put coin in box. take coin. drop coin. drop coin. close box. take all", "done 4, 5 -1 4");
        due(IN_ROOM, () -> g.thing(coin, 9));
        due(flags(OPEN), () -> g.thing(box, 8));
        says(g, "drop coin. take coin", "done 0, 5 -1 0");
        due(IN_ROOM, () -> g.thing(coin, 9));
        says(g, "take coin. drop coin. take coin. x", "fault 33");
        due(IN_ROOM, () -> g.thing(coin, 9));
    }

    @Sentence(of = "Promise 15: command", says = "Returns the number of commands that are carried out.")
    static void howManyAreCarriedOut() {
        for (int way = 0; way <= 7; way++) {
            Game g = manyRooms(8);
            for (int room = 0; room < 7; room++) {
                g.connect(room, UP, room + 1, -1);
            }
            g.begin(7 - way);
            says(g, ups(20), "done " + way + ", 9 -1 " + way);
            due(way, () -> g.count(7));
            due(7, () -> g.count(4));
        }
        for (int commands = 1; commands <= 20; commands++) {
            final int n = commands;
            Game g = loop();
            g.type(ups(n));
            due(n, g::command);
        }
        says(loop(), ups(18) + ". east", "done 18, 9 -1 18");
    }

    private static Game typed(String text) {
        Game g = oneOfEach();
        g.type(text);
        return g;
    }

    @Sentence(of = "Promise 15: command", says = "Throws `IllegalStateException` if the world is not played; the text")
    static void commandWhileNotPlayed() {
        refused(STATE, Edges::made, Game::command);
        refused(STATE, Game::new, Game::command);
        for (String text : new String[] {"wait", "wax", "wait. down"}) {
            refused(STATE, () -> typed(text), Game::command);
            Game g = typed(text);
            due(STATE, g::command);
            due(text.length(), () -> g.count(5));
            due(-1, g::faultPosition);
        }
        Game g = typed("wa");
        due(STATE, g::command);
        g.begin(0);
        says(g, "it", "done 1");
        g.say("down");
        g.say("x");
        g.stop();
        g.type("wait");
        due(STATE, g::command);
        due(0, g::faultPosition);
        due(9, () -> g.refusal(0));
        due(4, () -> g.count(5));
    }

    @Sentence(of = "Promise 15: command", says = "Throws `IllegalArgumentException` if the text has a fault")
    static void commandWithAFault() {
        for (String text : new String[] {"", "x", "wait. ", "wait. wait. wax", "wait. down. x", "take box. take"}) {
            Game g = oneOfEach();
            g.begin(0);
            List<Object> before = g.world();
            g.type(text);
            due(ARGUMENT, g::command);
            due(0, () -> g.count(5));
            due(0, () -> g.count(6));
            due(0, () -> g.refusal(0));
            due(-1, () -> g.refusal(2));
            same("the world", before, g.world());
        }
    }

    @Sentence(of = "Promise 16: foresee", says = "Returns what command would return.")
    static void foreseesWhatCommandReturns() {
        String[] texts = {"look", "wait", "down", "take coin. take coin", "take all. drop all. drop all",
            "open box. put coin in box. close box. take coin", "light lamp. quench lamp. quench lamp",
            "open door. north. look", "wait. wait. take coin. wait", "open door. wait. wait. north. take coin", ups(20),
            "lock box with coin", "x", "", "wait. x"};
        for (String text : texts) {
            Game g = oneOfEach();
            g.begin(0);
            g.type(text);
            Object foreseen = Check.answer(g::foresee);
            due(foreseen, g::command);
        }
        Game many = loop();
        many.type(ups(20));
        due(20, many::foresee);
        due(20, many::foresee);
    }

    @Sentence(of = "Promise 16: foresee", says = "The text buffer stays, and so do the world, the fault position and")
    static void foreseeLeavesAll() {
        String[] texts = {"k", "k. wait. wait. south. take all", "k. down", "k. light lamp. quench lamp", "", "ks"};
        for (String text : texts) {
            Game touched = played();
            Game untouched = played();
            touched.type(text);
            untouched.type(text);
            Check.answer(touched::foresee);
            same("all after foresee", untouched.picture(), touched.picture());
            due(Check.answer(untouched::undo), touched::undo);
            due(Check.answer(untouched::command), touched::command);
            due(untouched.refusal(0), () -> touched.refusal(0));
            due(true, touched::isReplayed);
            same("all after command", untouched.picture(), touched.picture());
        }
    }

    @Sentence(of = "Promise 16: foresee", says = "Returns the number of commands that would be carried out.")
    static void howManyWouldBeCarriedOut() {
        for (int commands = 1; commands <= 20; commands++) {
            final int n = commands;
            Game g = loop();
            g.type(ups(n));
            due(n, g::foresee);
            due(0, () -> g.count(7));
        }
        Game g = oneOfEach();
        g.begin(0);
        g.type("down");
        due(0, g::foresee);
        Game last = loop();
        last.type(ups(18) + ". east");
        due(18, last::foresee);
    }

    @Sentence(of = "Promise 16: foresee", says = "Throws `IllegalStateException` if the world is not played")
    static void foreseeWhileNotPlayed() {
        refused(STATE, Edges::made, Game::foresee);
        refused(STATE, () -> typed("wait"), Game::foresee);
        refused(STATE, () -> typed("x"), Game::foresee);
        refused(STATE, Game::new, Game::foresee);
    }

    @Sentence(of = "Promise 16: foresee", says = "Throws `IllegalArgumentException` if the text has a fault")
    static void foreseeWithAFault() {
        refused(ARGUMENT, Edges::played, Game::foresee);
        for (String text : new String[] {"", "x", "wait. ", "wait. wax", "all"}) {
            refused(ARGUMENT, () -> {
                Game g = typed(text);
                g.begin(0);
                return g;
            }, Game::foresee);
        }
    }

    @Sentence(of = "Promise 17: matching", says = "Reads the text buffer as one noun phrase, and empties it, also if")
    static void readsOnePhrase() {
        Game g = oneOfEach();
        g.begin(0);
        due(1 << CONTAINER, () -> g.match("box"));
        due(0, () -> g.count(5));
        due(0, () -> g.match("old box"));
        due(0, () -> g.count(5));
        for (String text : new String[] {"bo", "box. look", "look", "red ", "box in box", "all", "take box"}) {
            due(ARGUMENT, () -> g.match(text));
            due(phraseFault(text), g::faultPosition);
            due(0, () -> g.count(5));
        }
        due(ARGUMENT, g::matching);
        due(0, g::faultPosition);
        due(0, () -> g.count(3));
    }

    @Sentence(of = "Promise 17: matching", says = "Returns the set of all visible things that have the noun and the")
    static void theSetOfThings() {
        Game g = rooms(true, true);
        for (int thing = 0; thing < 16; thing++) {
            g.addThing(OBJECT, BELL, thing % 4, 1);
            g.put(thing, thing % 8 == 7 ? CARRIED : IN_ROOM, thing % 8 == 6 ? 1 : 0);
        }
        g.begin(0);
        int visible = 0xffff & ~(1 << 6) & ~(1 << 14);
        due(visible, () -> g.match("bell"));
        due(0x2222, () -> g.match("red bell"));
        due(0x4444 & visible, () -> g.match("old bell"));
        due(0x8888, () -> g.match("big bell"));
        due(0, () -> g.match("box"));
        due(0, () -> g.match("big box"));
        Game glass = oneOfEach();
        glass.put(OBJECT, INSIDE, CONTAINER);
        glass.setFlag(CONTAINER, TRANSPARENT, true);
        glass.begin(0);
        due(false, () -> glass.isReachable(OBJECT));
        due(1 << OBJECT, () -> glass.match("coin"));
        due(1 << DOOR, () -> glass.match("door"));
    }

    @Sentence(of = "Promise 17: matching", says = "Throws `IllegalStateException` if the world is not played; the")
    static void matchingWhileNotPlayed() {
        refused(STATE, Edges::made, Game::matching);
        refused(STATE, () -> typed("box"), Game::matching);
        refused(STATE, () -> typed("bux"), Game::matching);
        refused(STATE, Game::new, Game::matching);
        Game g = typed("bo");
        due(STATE, g::matching);
        due(2, () -> g.count(5));
        g.begin(0);
        due(1 << CONTAINER, () -> g.match("x"));
    }

    @Sentence(of = "Promise 17: matching", says = "Throws `IllegalArgumentException` if the text has a fault")
    static void matchingWithAFault() {
        for (String text : new String[] {"", "x", "box ", "red", "red all"}) {
            Game g = oneOfEach();
            g.begin(0);
            g.say("wait. down");
            List<Object> before = g.world();
            g.type(text);
            due(ARGUMENT, g::matching);
            due(0, () -> g.count(5));
            due(1, () -> g.count(6));
            due(9, () -> g.refusal(0));
            due(1, () -> g.refusal(2));
            same("the world", before, g.world());
        }
    }

    @Sentence(of = "Promise 18: faultPosition", says = "Returns the fault position of the text of the latest call of")
    static void ofTheLatestText() {
        Game g = typed("wax");
        due(STATE, g::command);
        due(-1, g::faultPosition);
        due(STATE, g::matching);
        due(-1, g::faultPosition);
        g.begin(0);
        due(ARGUMENT, g::foresee);
        due(-1, g::faultPosition);
        due(ARGUMENT, g::command);
        due(2, g::faultPosition);
        due(ARGUMENT, () -> g.match("boot"));
        due(3, g::faultPosition);
        g.type("x");
        due(ARGUMENT, g::foresee);
        due(3, g::faultPosition);
        g.stop();
        due(STATE, g::command);
        due(STATE, g::matching);
        due(3, g::faultPosition);
        g.begin(0);
        due(3, g::faultPosition);
        due(ARGUMENT, g::matching);
        due(0, g::faultPosition);
    }

    @Sentence(of = "Promise 18: faultPosition", says = "Returns the fault position, or -1 if that text had no fault")
    static void orNone() {
        Game g = oneOfEach();
        due(-1, g::faultPosition);
        g.begin(0);
        due(-1, g::faultPosition);
        says(g, "x", "fault 0");
        says(g, "wait", "done 1");
        due(-1, g::faultPosition);
        says(g, "lo", "fault 2");
        due(0, () -> g.match("old box"));
        due(-1, g::faultPosition);
        says(g, "lo", "fault 2");
        says(g, "down", "done 0, 9 -1 0");
        due(-1, g::faultPosition);
        says(g, ups(20) + ". ", "fault 80");
        due(80, g::faultPosition);
    }

    @Sentence(of = "Description, Details", says = "The fault position is -1 again behind a text without a fault.")
    static void behindATextWithoutAFault() {
        Game g = loop();
        for (String good : new String[] {"look", "down", "wait. down", "up. up"}) {
            says(g, "up.", "fault 3");
            due(3, g::faultPosition);
            g.type(good);
            g.command();
            due(-1, g::faultPosition);
        }
        due(ARGUMENT, () -> g.match("red"));
        due(3, g::faultPosition);
        due(0, () -> g.match("red box"));
        due(-1, g::faultPosition);
    }
}
