import java.util.List;

/** The parts Rooms, Things, Flags, Places and Play of the description. */
final class ThingsEdges extends Edges {
    private static final String[] NOUNS = {"box", "lamp", "key", "door", "coin", "rope", "book", "bell"};
    private static final String[] ADJECTIVES = {"", "red ", "old ", "big "};
    private static final String[] DIRECTIONS = {"north", "east", "south", "west", "up", "down"};

    @Sentence(of = "Description, Rooms", says = "At most 8 rooms are kept, numbered from 0.")
    static void eightRooms() {
        due(INDEX, () -> new Game().begin(0));
        for (int rooms = 1; rooms <= 8; rooms++) {
            final int n = rooms;
            due(n - 1, () -> manyRooms(n - 1).addRoom(true));
            due(n, () -> manyRooms(n).count(0));
            due(0, () -> manyRooms(n).begin(n - 1));
            due(INDEX, () -> manyRooms(n).begin(n));
        }
        Game g = manyRooms(8);
        due(STATE, () -> g.addRoom(true));
        due(8, () -> g.count(0));
        due(-1, () -> g.connect(7, DOWN, 7, -1));
        due(7, () -> g.exit(7, DOWN));
        due(INDEX, () -> g.exit(8, NORTH));
    }

    @Sentence(of = "Description, Rooms", says = "A room is light or dark.")
    static void eachRoomIsLightOrDark() {
        for (int set = 0; set < 256; set++) {
            boolean[] light = new boolean[8];
            for (int room = 0; room < 8; room++) {
                light[room] = (set >> room & 1) != 0;
            }
            Game g = rooms(light);
            for (int room = 0; room < 8; room++) {
                final int r = room;
                due(light[r], () -> g.isLit(r));
            }
        }
    }

    @Sentence(of = "Description, Rooms", says = "It can have an exit in each of the directions north, east, south")
    static void anExitInEachDirection() {
        for (int direction = NORTH; direction <= DOWN; direction++) {
            Game g = manyRooms(8);
            for (int d = NORTH; d <= DOWN; d++) {
                g.connect(7, d, d + 1, -1);
            }
            g.begin(7);
            for (int d = NORTH; d <= DOWN; d++) {
                final int to = d;
                due(to + 1, () -> g.exit(7, to));
                due(MISSING, () -> g.exit(0, to));
            }
            says(g, DIRECTIONS[direction], "done 1");
            final int room = direction + 1;
            due(room, () -> g.count(4));
            says(g, "go " + DIRECTIONS[direction], "done 0, 9 -1 0");
        }
    }

    @Sentence(of = "Description, Rooms", says = "An exit leads from its room to a room, possibly the same one")
    static void anExitLeadsInItsDirectionOnly() {
        Game g = rooms(true, true, true);
        int door = g.addThing(DOOR, GATE, 0, 1);
        g.connect(0, NORTH, 1, -1);
        g.connect(0, EAST, 0, door);
        g.connect(1, UP, 2, door);
        int[][] want = {{1, 0, -1, -1, -1, -1}, {-1, -1, -1, -1, 2, -1}, {-1, -1, -1, -1, -1, -1}};
        for (int room = 0; room < 3; room++) {
            for (int direction = NORTH; direction <= DOWN; direction++) {
                final int r = room;
                final int d = direction;
                due(want[r][d] < 0 ? MISSING : want[r][d], () -> g.exit(r, d));
            }
        }
        due(-1, () -> g.door(0, NORTH));
        due(door, () -> g.door(0, EAST));
        due(door, () -> g.door(1, UP));
        due(MISSING, () -> g.distance(1, 0));
        g.begin(0);
        says(g, "open door. east. north. up", "done 4");
        due(2, () -> g.count(4));
        says(g, "down", "done 0, 9 -1 0");
    }

    @Sentence(of = "Description, Things", says = "At most 16 things are kept, numbered from 0.")
    static void sixteenThings() {
        Game g = rooms(true);
        due(0, () -> g.count(1));
        due(INDEX, () -> g.thing(0, 0));
        for (int thing = 0; thing < 16; thing++) {
            final int t = thing;
            due(t, () -> g.addThing(OBJECT, t % 8, 0, 1));
            due(t + 1, () -> g.count(1));
            due(t % 8, () -> g.thing(t, 1));
            due(INDEX, () -> g.thing(t + 1, 1));
        }
        due(STATE, () -> g.addThing(OBJECT, BOX, 0, 1));
        due(16, () -> g.count(1));
        due(NOWHERE, () -> g.put(15, CARRIED, 0));
        due(16, () -> g.begin(0));
        due(1 << 15, () -> g.match("bell"));
        due(true, () -> g.isReachable(15));
    }

    @Sentence(of = "Description, Things", says = "A thing is of a kind: 0 object, 1 container, 2 supporter, 3 lamp")
    static void theFiveKinds() {
        for (int kind = OBJECT; kind <= DOOR; kind++) {
            final int k = kind;
            due(k, () -> made().thing(k, 0));
            due(k == CONTAINER ? IN_ROOM : KIND, () -> made().put(k == OBJECT ? LAMP : OBJECT, INSIDE, k));
            due(k == SUPPORTER ? IN_ROOM : KIND, () -> made().put(k == OBJECT ? LAMP : OBJECT, UPON, k));
            due(k == LAMP ? 9 : KIND, () -> made().setFuel(k, 1));
            due(k == DOOR ? 1 : ARGUMENT, () -> made().connect(0, NORTH, 0, k));
        }
        due(ARGUMENT, () -> made().addThing(-1, BOX, 0, 1));
        due(ARGUMENT, () -> made().addThing(5, BOX, 0, 1));
    }

    @Sentence(of = "Description, Things", says = "It has a noun, one of box, lamp, key, door, coin, rope, book and")
    static void nounsAndAdjectives() {
        for (int noun = BOX; noun <= BELL; noun++) {
            for (int adjective = 0; adjective <= BIG; adjective++) {
                Game g = rooms(true);
                for (int thing = 0; thing < 16; thing++) {
                    // The last two are alike in both.
                    boolean isLast = thing >= 14;
                    g.addThing(OBJECT, isLast ? noun : (noun + 1 + thing % 7) % 8, isLast ? adjective : thing % 4, 1);
                    g.put(thing, IN_ROOM, 0);
                }
                g.begin(0);
                String phrase = ADJECTIVES[adjective] + NOUNS[noun];
                due(3 << 14, () -> g.match(phrase));
                for (int other = 0; other <= BIG; other++) {
                    String another = ADJECTIVES[other] + NOUNS[noun];
                    due(other == 0 || other == adjective ? 3 << 14 : 0, () -> g.match(another));
                }
            }
        }
    }

    @Sentence(of = "Description, Things", says = "It has a size from 1 to 9 and a worth from 0 to 9, 0 at first.")
    static void sizesAndWorths() {
        for (int size = -1; size <= 11; size++) {
            final int s = size;
            boolean isSize = 1 <= size && size <= 9;
            due(isSize ? 5 : ARGUMENT, () -> made().addThing(OBJECT, BOX, 0, s));
        }
        Game g = made();
        due(1, () -> g.thing(g.addThing(OBJECT, BOX, 0, 1), 3));
        due(9, () -> g.thing(g.addThing(OBJECT, BOX, 0, 9), 3));
        for (int kind = OBJECT; kind <= DOOR; kind++) {
            final int k = kind;
            due(0, () -> g.thing(k, 5));
            for (int worth = -1; worth <= 10; worth++) {
                final int w = worth;
                boolean isWorth = 0 <= worth && worth <= 9;
                due(isWorth ? Math.max(0, w - 1) : ARGUMENT, () -> g.setWorth(k, w));
                due(Math.min(9, Math.max(0, w)), () -> g.thing(k, 5));
            }
        }
    }

    @Sentence(of = "Description, Things", says = "Containers and supporters have a capacity from 0 to 30, 0 at first")
    static void capacityFuelAndKey() {
        Game g = rooms(true);
        for (int kind = OBJECT; kind <= DOOR; kind++) {
            g.addThing(kind, kind, 0, 1);
            final int k = kind;
            due(0, () -> g.thing(k, 4));
            due(0, () -> g.thing(k, 6));
            due(-1, () -> g.thing(k, 7));
        }
        for (int number : new int[] {-1, 0, 1, 30, 31, 99, 100}) {
            boolean isCapacity = 0 <= number && number <= 30;
            boolean isFuel = 0 <= number && number <= 99;
            for (int kind = OBJECT; kind <= DOOR; kind++) {
                final int k = kind;
                boolean hasCapacity = k == CONTAINER || k == SUPPORTER;
                due(!isCapacity ? ARGUMENT : hasCapacity ? g.thing(k, 4) : KIND, () -> g.setCapacity(k, number));
                due(!isFuel ? ARGUMENT : k == LAMP ? g.thing(k, 6) : KIND, () -> g.setFuel(k, number));
            }
        }
        int[] capacities = {0, 30, 30, 0, 0};
        int[] fuels = {0, 0, 0, 99, 0};
        for (int kind = OBJECT; kind <= DOOR; kind++) {
            final int k = kind;
            due(capacities[k], () -> g.thing(k, 4));
            due(fuels[k], () -> g.thing(k, 6));
            for (int key = OBJECT; key <= DOOR; key++) {
                final int old = key - 1;
                final int now = key;
                due(k == CONTAINER || k == DOOR ? old : KIND, () -> g.setKey(k, now));
            }
            due(k == CONTAINER || k == DOOR ? DOOR : -1, () -> g.thing(k, 7));
            due(k == CONTAINER || k == DOOR ? DOOR : KIND, () -> g.setKey(k, -1));
            due(-1, () -> g.thing(k, 7));
        }
    }

    @Sentence(of = "Description, Flags", says = "A thing can have flags, none at first: 0 fixed, for objects,")
    static void whichFlags() {
        int[] can = {flags(FIXED), flags(FIXED, OPEN, LOCKED, TRANSPARENT), flags(FIXED), flags(LIT),
            flags(OPEN, LOCKED)};
        for (int kind = OBJECT; kind <= DOOR; kind++) {
            final int k = kind;
            due(0, () -> made().thing(k, 8));
            for (int flag = FIXED; flag <= LIT; flag++) {
                final int f = flag;
                Game g = made();
                boolean isAllowed = (can[k] >> f & 1) != 0;
                due(isAllowed ? false : KIND, () -> g.setFlag(k, f, true));
                due(isAllowed ? 1 << f : 0, () -> g.thing(k, 8));
            }
        }
        for (int kind : new int[] {CONTAINER, DOOR}) {
            Game g = made();
            g.setFlag(kind, OPEN, true);
            due(STATE, () -> g.setFlag(kind, LOCKED, true));
            due(true, () -> g.setFlag(kind, OPEN, false));
            due(false, () -> g.setFlag(kind, LOCKED, true));
            due(STATE, () -> g.setFlag(kind, OPEN, true));
            due(flags(LOCKED), () -> g.thing(kind, 8));
        }
        Game all = made();
        all.setFlag(CONTAINER, FIXED, true);
        all.setFlag(CONTAINER, OPEN, true);
        all.setFlag(CONTAINER, TRANSPARENT, true);
        due(flags(FIXED, OPEN, TRANSPARENT), () -> all.thing(CONTAINER, 8));
    }

    @Sentence(of = "Description, Flags", says = "A thing can have flags, none at first")
    static void litOnlyWithFuel() {
        Game g = oneOfEach();
        g.setFuel(LAMP, 0);
        due(STATE, () -> g.setFlag(LAMP, LIT, true));
        due(0, () -> g.setFuel(LAMP, 1));
        due(false, () -> g.setFlag(LAMP, LIT, true));
        due(STATE, () -> g.setFuel(LAMP, 0));
        due(flags(LIT), () -> g.thing(LAMP, 8));
        g.begin(0);
        says(g, "wait", "done 1");
        due(0, () -> g.thing(LAMP, 8));
        says(g, "light lamp", "done 0, 11 3 0");
    }

    @Sentence(of = "Description, Places", says = "Each thing is at a place: 0 in a room, 1 in a container, 2 on a")
    static void thePlaces() {
        Game g = made();
        int coin = g.addThing(OBJECT, COIN, 0, 1);
        int[] targets = {1, CONTAINER, SUPPORTER, -1, -1};
        due(NOWHERE, () -> g.thing(coin, 9));
        due(-1, () -> g.thing(coin, 10));
        for (int from = IN_ROOM; from <= NOWHERE; from++) {
            for (int to = IN_ROOM; to <= NOWHERE; to++) {
                g.put(coin, from, targets[from]);
                final int f = from;
                final int t = to;
                due(f, () -> g.put(coin, t, targets[t]));
                due(t, () -> g.thing(coin, 9));
                due(targets[t], () -> g.thing(coin, 10));
            }
        }
        due(ARGUMENT, () -> g.put(coin, -1, 0));
        due(ARGUMENT, () -> g.put(coin, 5, 0));
    }

    @Sentence(of = "Description, Places", says = "Doors are always nowhere.")
    static void doorsAreNowhere() {
        int[] targets = {0, CONTAINER, SUPPORTER, 0, 0};
        for (int place = IN_ROOM; place <= NOWHERE; place++) {
            final int p = place;
            refused(KIND, Edges::made, g -> g.put(DOOR, p, targets[p]));
        }
        refused(KIND, Edges::made, g -> g.addDaemon(MOVER, DOOR, 1, true));
        Game g = oneOfEach();
        g.setFlag(CONTAINER, OPEN, true);
        g.addDaemon(GATHERER, CONTAINER, 1, false);
        g.begin(0);
        says(g, "take door", "done 0, 10 4 0");
        says(g, "put door in box", "done 0, 10 4 0");
        says(g, "put door on bell", "done 0, 10 4 0");
        says(g, "drop door", "done 0, 5 -1 0");
        says(g, "take all. drop all. open door. wait. wait. wait", "done 6");
        due(NOWHERE, () -> g.thing(DOOR, 9));
        due(-1, () -> g.thing(DOOR, 10));
        due(-2, () -> g.outer(DOOR));
        due(DOOR, () -> g.content(NOWHERE, 0, 0));
    }

    @Sentence(of = "Description, Places", says = "The sizes of the things that are directly in a container or on a")
    static void sizesUpToTheCapacity() {
        for (int kind = CONTAINER; kind <= SUPPORTER; kind++) {
            Game g = rooms(true);
            int big = holder(g, kind, BOX, 1, 30);
            int[] things = new int[5];
            for (int i = 0; i < 4; i++) {
                things[i] = object(g, COIN, i < 3 ? 9 : 3, IN_ROOM, 0);
                final int k = kind;
                final int thing = things[i];
                due(IN_ROOM, () -> g.put(thing, k, big));
            }
            due(30, () -> g.thing(big, 11));
            int one = object(g, COIN, 1, IN_ROOM, 0);
            final int k = kind;
            due(STATE, () -> g.put(one, k, big));
            due(STATE, () -> g.setCapacity(big, 29));
            due(30, () -> g.setCapacity(big, 30));
            due(k, () -> g.put(things[3], IN_ROOM, 0));
            due(30, () -> g.setCapacity(big, 28));
            due(IN_ROOM, () -> g.put(one, k, big));
            int empty = holder(g, kind, BOX, 1, 0);
            due(STATE, () -> g.put(one, k, empty));
            due(k, () -> g.thing(one, 9));
        }
    }

    @Sentence(of = "Description, Places", says = "The sizes of the things that are directly in a container or on a")
    static void whatIsInThemDoesNotCount() {
        Game g = rooms(true);
        int outside = holder(g, CONTAINER, BOX, 1, 2);
        int inside = holder(g, SUPPORTER, BELL, 2, 30);
        int coin = object(g, COIN, 9, IN_ROOM, 0);
        g.put(inside, INSIDE, outside);
        due(IN_ROOM, () -> g.put(coin, UPON, inside));
        due(2, () -> g.thing(outside, 11));
        due(9, () -> g.thing(inside, 11));
        due(STATE, () -> g.put(coin, INSIDE, outside));
    }

    /** Sixteen things, each of which but the first is in or on the one before. */
    private static Game chain(int place, int target) {
        Game g = rooms(true, true);
        for (int thing = 0; thing < 16; thing++) {
            holder(g, thing % 2 == 0 ? CONTAINER : SUPPORTER, thing % 8, 1, 2);
            if (thing % 2 == 0) {
                g.setFlag(thing, OPEN, true);
            }
        }
        for (int thing = 15; thing > 0; thing--) {
            g.put(thing, thing % 2 == 0 ? UPON : INSIDE, thing - 1);
        }
        g.put(0, place, target);
        return g;
    }

    @Sentence(of = "Description, Places", says = "No thing is in or on itself, neither directly nor through others.")
    static void nothingIsInItself() {
        refused(STATE, Edges::made, g -> g.put(CONTAINER, INSIDE, CONTAINER));
        refused(STATE, Edges::made, g -> g.put(SUPPORTER, UPON, SUPPORTER));
        for (int thing = 0; thing < 16; thing++) {
            final int t = thing;
            Game g = chain(IN_ROOM, 0);
            int place = g.thing(t, 9);
            due(STATE, () -> g.put(t, UPON, 15));
            due(t < 15 ? STATE : INSIDE, () -> g.put(t, INSIDE, 14));
            due(place, () -> g.thing(t, 9));
        }
    }

    @Sentence(of = "Description, Places", says = "No thing is in or on itself, neither directly nor through others.")
    static void nothingIsPutIntoItself() {
        Game g = rooms(true);
        int box = openBox(g, IN_ROOM, 0);
        int bell = holder(g, SUPPORTER, BELL, 1, 30);
        int book = holder(g, CONTAINER, BOOK, 1, 30);
        g.setFlag(book, OPEN, true);
        g.put(bell, INSIDE, box);
        g.put(book, UPON, bell);
        g.begin(0);
        says(g, "put box in box", "done 0, 13 0 0");
        says(g, "put bell on bell", "done 0, 13 1 0");
        says(g, "put box on bell", "done 0, 13 0 0");
        says(g, "put box in book", "done 0, 13 0 0");
        says(g, "put bell in book", "done 0, 13 1 0");
        says(g, "put book in box. put bell in book", "done 2");
    }

    @Sentence(of = "Description, Places", says = "The load is the sum of the sizes of all things that are carried or")
    static void theLoadIsAtMostTwenty() {
        Game g = rooms(true);
        due(0, () -> g.count(9));
        int box = openBox(g, CARRIED, 0);
        due(1, () -> g.count(9));
        int bell = holder(g, SUPPORTER, BELL, 1, 30);
        g.put(bell, INSIDE, box);
        due(2, () -> g.count(9));
        int coin = object(g, COIN, 9, UPON, bell);
        due(11, () -> g.count(9));
        int rope = object(g, ROPE, 8, IN_ROOM, 0);
        int key = object(g, KEY, 1, IN_ROOM, 0);
        int book = object(g, BOOK, 1, IN_ROOM, 0);
        due(11, () -> g.count(9));
        due(IN_ROOM, () -> g.put(rope, CARRIED, 0));
        due(IN_ROOM, () -> g.put(key, UPON, bell));
        due(20, () -> g.count(9));
        due(STATE, () -> g.put(book, CARRIED, 0));
        due(STATE, () -> g.put(book, UPON, bell));
        due(STATE, () -> g.put(book, INSIDE, box));
        g.begin(0);
        says(g, "take book", "done 0, 7 " + book + " 0");
        says(g, "put book in box", "done 0, 7 " + box + " 0");
        says(g, "put book on bell", "done 0, 7 " + bell + " 0");
        says(g, "take all", "done 0, 5 -1 0");
        says(g, "take coin. drop coin. take book", "done 3");
        due(12, () -> g.count(9));
    }

    @Sentence(of = "Description, Places", says = "The load is the sum of the sizes of all things that are carried or")
    static void theLoadOfAll() {
        Game none = rooms(true);
        due(0, () -> none.count(9));
        due(16, () -> chain(CARRIED, 0).count(9));
        due(0, () -> chain(IN_ROOM, 0).count(9));
        due(0, () -> chain(NOWHERE, 0).count(9));
    }

    @Sentence(of = "Description, Places", says = "The outer place of a thing is the room in which it is directly or")
    static void theOuterPlace() {
        for (int thing = 0; thing < 16; thing++) {
            final int t = thing;
            due(0, () -> chain(IN_ROOM, 0).outer(t));
            due(1, () -> chain(IN_ROOM, 1).outer(t));
            due(-1, () -> chain(CARRIED, 0).outer(t));
            due(-2, () -> chain(NOWHERE, 0).outer(t));
        }
        due(-2, () -> made().outer(DOOR));
    }

    @Sentence(of = "Description, Play", says = "Rooms, things, exits, places and daemons are made while the world is")
    static void madeWhileNotPlayed() {
        Use[] makings = {g -> g.addRoom(true), g -> g.connect(0, EAST, 1, -1), g -> g.addThing(OBJECT, COIN, RED, 1),
            g -> g.setCapacity(CONTAINER, 20), g -> g.setFlag(OBJECT, FIXED, true), g -> g.setKey(CONTAINER, OBJECT),
            g -> g.setFuel(LAMP, 5), g -> g.setWorth(OBJECT, 3), g -> g.put(OBJECT, CARRIED, 0),
            g -> g.addDaemon(SWITCHER, LAMP, 1, false)};
        Object[] answers = {2, -1, 5, 9, false, -1, 9, 0, IN_ROOM, 1};
        for (int i = 0; i < makings.length; i++) {
            Use making = makings[i];
            due(answers[i], () -> making.in(made()));
            refused(STATE, Edges::played, making);
            due(answers[i], () -> {
                Game g = played();
                g.stop();
                return making.in(g);
            });
        }
    }

    @Sentence(of = "Description, Play", says = "When play begins, the player is in a room, and the clock is 0.")
    static void whenPlayBegins() {
        Game g = manyRooms(8);
        counts(g, 8, 0, 0, -1, -1);
        for (int room = 0; room < 8; room++) {
            g.begin(room);
            counts(g, 8, 0, 0, 0, room);
            waits(g, 3);
            counts(g, 8, 0, 0, 3, room);
            g.stop();
            counts(g, 8, 0, 0, -1, -1);
        }
    }

    @Sentence(of = "Description, Play", says = "When play is stopped, the world is as it was when it began.")
    static void whenPlayIsStopped() {
        Game g = oneOfEach();
        List<Object> before = g.world();
        g.begin(0);
        g.say("light lamp. open box. put lamp in box. take coin. open door. north. drop coin");
        due(7, g::stop);
        same("the world", before, g.world());
        Game empty = manyRooms(1);
        empty.begin(0);
        due(0, empty::stop);
        counts(empty, 1, 0, 0, -1, -1, 0, 0, 0, 0, 0);
    }
}
