import java.util.NoSuchElementException;

/** A world of rooms and things for a game that is played by typed commands. */
public final class AdventureWorld {

    private static final int NONE = -1;

    private static final int ROOM_LIMIT = 8;
    private static final int THING_LIMIT = 16;
    private static final int DAEMON_LIMIT = 6;
    private static final int EVENT_LIMIT = 40;
    private static final int UNDO_LIMIT = 10;
    private static final int TEXT_LIMIT = 80;

    // The shortest command and the sign before the next one take four characters.
    private static final int COMMAND_LIMIT = TEXT_LIMIT / 4;

    // A turn needs an appended part of a text of its own, and an object is used for 512 calls.
    private static final int TURN_LIMIT = 512;

    private static final int SIZE_LIMIT = 9;
    private static final int WORTH_LIMIT = 9;
    private static final int CAPACITY_LIMIT = 30;
    private static final int FUEL_LIMIT = 99;
    private static final int PERIOD_LIMIT = 20;
    private static final int LOAD_LIMIT = 20;
    private static final int LATER_LIMIT = 30;

    private static final int WAYS = 6;
    private static final int NOUNS = 8;
    private static final int ADJECTIVES = 3;

    private static final int OBJECT = 0;
    private static final int CONTAINER = 1;
    private static final int SUPPORTER = 2;
    private static final int LAMP = 3;
    private static final int DOOR = 4;

    private static final int FIXED = 0;
    private static final int OPEN = 1;
    private static final int LOCKED = 2;
    private static final int TRANSPARENT = 3;
    private static final int LIT = 4;

    private static final int IN_ROOM = 0;
    private static final int IN_CONTAINER = 1;
    private static final int ON_SUPPORTER = 2;
    private static final int CARRIED = 3;
    private static final int NOWHERE = 4;

    private static final int OUTER_CARRIED = -1;
    private static final int OUTER_NOWHERE = -2;

    private static final int CLOSER = 0;
    private static final int MOVER = 1;
    private static final int GATHERER = 2;
    private static final int SWITCHER = 3;

    private static final int EVENT_UNIT = 100;
    private static final int CLOSED_EVENT = 1;
    private static final int MOVED_EVENT = 2;
    private static final int GATHERED_EVENT = 3;
    private static final int LIT_EVENT = 4;
    private static final int QUENCHED_EVENT = 5;
    private static final int BURNED_EVENT = 6;

    private static final int MEANS_NOTHING = 1;
    private static final int MEANS_SEVERAL = 2;
    private static final int OUT_OF_REACH = 3;
    private static final int WRONG_KIND = 4;
    private static final int SO_ALREADY = 5;
    private static final int WRONG_STATE = 6;
    private static final int TOO_MUCH = 7;
    private static final int WRONG_KEY = 8;
    private static final int NO_EXIT = 9;
    private static final int STAYS_PUT = 10;
    private static final int NO_FUEL = 11;
    private static final int DARK = 12;
    private static final int IN_ITSELF = 13;

    private final Story story;
    private final Story saved;
    private boolean hasSaved;
    private final Past past;
    private final Reader reader;
    private final Actor actor;

    // What is only foreseen or played once more happens in a world of its own.
    private final Actor dreamer;

    private int latestFault = NONE;
    private int refusedReason;
    private int refusedThing = NONE;
    private int refusedIndex = NONE;

    public AdventureWorld() {
        Plan plan = new Plan();
        World now = new World(plan);
        Plan savedPlan = new Plan();
        story = new Story(plan, now, new World(plan));
        saved = new Story(savedPlan, new World(savedPlan), new World(savedPlan));
        past = new Past(plan);
        reader = new Reader();
        actor = new Actor(plan, now);
        dreamer = new Actor(plan, new World(plan));
    }

    public int addRoom(boolean isLight) throws IllegalStateException {
        refuseWhilePlayed();
        int room = story.plan.newRoom(isLight);
        if (room == NONE) {
            throw new IllegalStateException("there are 8 rooms");
        }
        return room;
    }

    public int connect(int room, int direction, int to, int door)
            throws IndexOutOfBoundsException, IllegalArgumentException, IllegalStateException {
        Plan plan = story.plan;
        boolean isRoomOrNone = to == NONE || plan.isRoom(to);
        boolean isThingOrNone = door == NONE || plan.isThing(door);
        if (!plan.isRoom(room) || !isRoomOrNone || !isThingOrNone) {
            throw new IndexOutOfBoundsException("no such room or thing");
        }
        boolean isWrongDoor = door != NONE && (to == NONE || plan.kindOf(door) != DOOR);
        if (!isWithin(direction, 0, WAYS - 1) || isWrongDoor) {
            throw new IllegalArgumentException("no such direction, or not a door of an exit");
        }
        refuseWhilePlayed();
        int before = plan.exitOf(room, direction);
        plan.lead(room, direction, to, door);
        return before;
    }

    public int addThing(int kind, int noun, int adjective, int size)
            throws IllegalArgumentException, IllegalStateException {
        boolean isNamed = isWithin(noun, 0, NOUNS - 1) && isWithin(adjective, 0, ADJECTIVES);
        if (!isNamed || !isWithin(kind, OBJECT, DOOR) || !isWithin(size, 1, SIZE_LIMIT)) {
            throw new IllegalArgumentException("an argument is out of range");
        }
        refuseWhilePlayed();
        int thing = story.plan.newThing(kind, noun, adjective, size);
        if (thing == NONE) {
            throw new IllegalStateException("there are 16 things");
        }
        story.now.clear(thing);
        return thing;
    }

    public int setCapacity(int thing, int capacity)
            throws IndexOutOfBoundsException, IllegalArgumentException,
            UnsupportedOperationException, IllegalStateException {
        Plan plan = story.plan;
        checkThing(thing);
        checkRange(capacity, 0, CAPACITY_LIMIT);
        if (!plan.isHolder(thing)) {
            throw new UnsupportedOperationException("neither a container nor a supporter");
        }
        refuseWhilePlayed();
        if (story.now.sizeInside(thing) > capacity) {
            throw new IllegalStateException("what is in or on it needs more");
        }
        int before = plan.capacities[thing];
        plan.capacities[thing] = capacity;
        return before;
    }

    public boolean setFlag(int thing, int flag, boolean on)
            throws IndexOutOfBoundsException, IllegalArgumentException,
            UnsupportedOperationException, IllegalStateException {
        World now = story.now;
        checkThing(thing);
        checkRange(flag, FIXED, LIT);
        if (!story.plan.canHave(thing, flag)) {
            throw new UnsupportedOperationException("its kind cannot have this flag");
        }
        refuseWhilePlayed();
        boolean isOpenAndLocked = flag == OPEN && now.has(thing, LOCKED)
                || flag == LOCKED && now.has(thing, OPEN);
        boolean isLitWithoutFuel = flag == LIT && now.fuels[thing] == 0;
        if (on && (isOpenAndLocked || isLitWithoutFuel)) {
            throw new IllegalStateException("open and locked, or lit without fuel");
        }
        boolean before = now.has(thing, flag);
        now.mark(thing, flag, on);
        return before;
    }

    public int setKey(int thing, int key)
            throws IndexOutOfBoundsException, UnsupportedOperationException, IllegalStateException {
        Plan plan = story.plan;
        checkThing(thing);
        if (key != NONE) {
            checkThing(key);
        }
        if (!plan.isLockable(thing)) {
            throw new UnsupportedOperationException("neither a container nor a door");
        }
        refuseWhilePlayed();
        int before = plan.keys[thing];
        plan.keys[thing] = key;
        return before;
    }

    public int setFuel(int thing, int fuel)
            throws IndexOutOfBoundsException, IllegalArgumentException,
            UnsupportedOperationException, IllegalStateException {
        World now = story.now;
        checkThing(thing);
        checkRange(fuel, 0, FUEL_LIMIT);
        if (story.plan.kindOf(thing) != LAMP) {
            throw new UnsupportedOperationException("not a lamp");
        }
        refuseWhilePlayed();
        if (fuel == 0 && now.has(thing, LIT)) {
            throw new IllegalStateException("the lamp is lit");
        }
        int before = now.fuels[thing];
        now.fuels[thing] = fuel;
        return before;
    }

    public int setWorth(int thing, int worth)
            throws IndexOutOfBoundsException, IllegalArgumentException, IllegalStateException {
        Plan plan = story.plan;
        checkThing(thing);
        checkRange(worth, 0, WORTH_LIMIT);
        refuseWhilePlayed();
        int before = plan.worths[thing];
        plan.worths[thing] = worth;
        return before;
    }

    public int put(int thing, int place, int target)
            throws IndexOutOfBoundsException, IllegalArgumentException,
            UnsupportedOperationException, IllegalStateException {
        Plan plan = story.plan;
        checkThing(thing);
        checkPlace(place, target);
        boolean isWrongTarget = place == IN_CONTAINER && plan.kindOf(target) != CONTAINER
                || place == ON_SUPPORTER && plan.kindOf(target) != SUPPORTER;
        if (plan.kindOf(thing) == DOOR || isWrongTarget) {
            throw new UnsupportedOperationException("a door, or no container or supporter");
        }
        refuseWhilePlayed();
        if (!story.now.allows(thing, place, target)) {
            throw new IllegalStateException("in or on itself, or too great");
        }
        int before = story.now.places[thing];
        story.now.move(thing, place, target);
        return before;
    }

    public int addDaemon(int kind, int thing, int period, boolean once)
            throws IndexOutOfBoundsException, IllegalArgumentException,
            UnsupportedOperationException, IllegalStateException {
        Plan plan = story.plan;
        checkThing(thing);
        checkRange(kind, CLOSER, SWITCHER);
        checkRange(period, 1, PERIOD_LIMIT);
        if (!plan.canServe(thing, kind)) {
            throw new UnsupportedOperationException("not a thing for this daemon");
        }
        refuseWhilePlayed();
        int daemon = plan.newDaemon(kind, thing, period, once);
        if (daemon == NONE) {
            throw new IllegalStateException("there are 6 daemons");
        }
        return daemon;
    }

    public int begin(int room) throws IndexOutOfBoundsException, IllegalStateException {
        checkRoom(room);
        refuseWhilePlayed();
        past.forget();
        story.open(room);
        return story.plan.things;
    }

    public int stop() throws IllegalStateException {
        refuseUnlessPlayed();
        int clock = story.now.clock;
        past.forget();
        story.close();
        return clock;
    }

    public int append(int packed) throws IllegalArgumentException, IllegalStateException {
        int added = reader.charactersIn(packed);
        if (added <= 0) {
            throw new IllegalArgumentException("not from 1 to 4 characters");
        }
        if (reader.length + added > TEXT_LIMIT) {
            throw new IllegalStateException("more than 80 characters");
        }
        reader.add(packed);
        return reader.length;
    }

    public int command() throws IllegalStateException, IllegalArgumentException {
        refuseUnlessPlayed();
        latestFault = reader.readCommands();
        reader.empty();
        refuseFault(latestFault);
        refusedReason = 0;
        refusedThing = NONE;
        refusedIndex = NONE;
        for (int i = 0; i < reader.codeCount; i++) {
            int code = reader.codes[i];
            past.prepare(story.now);
            if (!actor.act(code)) {
                refusedReason = actor.reason;
                refusedThing = actor.concerned;
                refusedIndex = i;
                return i;
            }
            if (Command.isTurn(code)) {
                past.keep();
                story.record(code);
            }
        }
        return reader.codeCount;
    }

    public int foresee() throws IllegalStateException, IllegalArgumentException {
        refuseUnlessPlayed();
        refuseFault(reader.readCommands());
        dreamer.world.copyFrom(story.now);
        for (int i = 0; i < reader.codeCount; i++) {
            if (!dreamer.act(reader.codes[i])) {
                return i;
            }
        }
        return reader.codeCount;
    }

    public int matching() throws IllegalStateException, IllegalArgumentException {
        refuseUnlessPlayed();
        latestFault = reader.readOnePhrase();
        reader.empty();
        refuseFault(latestFault);
        return story.plan.named(reader.phrase) & actor.sight.visible();
    }

    public int faultPosition() {
        return latestFault;
    }

    public int refusal(int what) throws IllegalArgumentException {
        checkRange(what, 0, 2);
        return what == 0 ? refusedReason : what == 1 ? refusedThing : refusedIndex;
    }

    public int undo() throws IllegalStateException {
        if (past.kept == 0) {
            throw new IllegalStateException("no turn is kept");
        }
        past.bringBack(story.now);
        return past.kept;
    }

    public boolean isReplayed() throws IllegalStateException {
        refuseUnlessPlayed();
        dreamer.world.copyFrom(story.begun);
        int turns = story.turnsTaken();
        for (int i = 0; i < turns; i++) {
            if (!dreamer.act(story.turns[i])) {
                return false;
            }
        }
        return dreamer.world.isLike(story.now);
    }

    public int thing(int thing, int what) throws IndexOutOfBoundsException, IllegalArgumentException {
        checkThing(thing);
        checkRange(what, 0, 11);
        return what < 6 || what == 7 ? story.plan.numberOf(thing, what) : story.now.numberOf(thing, what);
    }

    public int exit(int room, int direction)
            throws IndexOutOfBoundsException, IllegalArgumentException, NoSuchElementException {
        checkExit(room, direction);
        return story.plan.exitOf(room, direction);
    }

    public int door(int room, int direction)
            throws IndexOutOfBoundsException, IllegalArgumentException, NoSuchElementException {
        checkExit(room, direction);
        return story.plan.doorOf(room, direction);
    }

    public boolean isLit(int room) throws IndexOutOfBoundsException {
        checkRoom(room);
        return actor.sight.hasLight(room);
    }

    public boolean isVisible(int thing) throws IndexOutOfBoundsException, IllegalStateException {
        checkThing(thing);
        refuseUnlessPlayed();
        return contains(actor.sight.visible(), thing);
    }

    public boolean isReachable(int thing) throws IndexOutOfBoundsException, IllegalStateException {
        checkThing(thing);
        refuseUnlessPlayed();
        return contains(actor.sight.visible(), thing) && story.now.isUnenclosed(thing);
    }

    public int content(int place, int target, int index)
            throws IllegalArgumentException, IndexOutOfBoundsException {
        checkPlace(place, target);
        int things = story.now.directlyAt(place, target);
        if (index == NONE) {
            return Integer.bitCount(things);
        }
        int thing = member(things, index);
        if (thing == NONE) {
            throw new IndexOutOfBoundsException("no such thing there");
        }
        return thing;
    }

    public int outer(int thing) throws IndexOutOfBoundsException {
        checkThing(thing);
        return story.now.outerOf(thing);
    }

    public int distance(int from, int to) throws IndexOutOfBoundsException, NoSuchElementException {
        checkRoom(from);
        checkRoom(to);
        int steps = story.now.steps(from, to);
        if (steps == NONE) {
            throw new NoSuchElementException("no such way");
        }
        return steps;
    }

    public int worth(int room) throws IndexOutOfBoundsException {
        // The number for carried here is the one that the outer place has, too.
        if (room != OUTER_CARRIED) {
            checkRoom(room);
        }
        int sum = 0;
        for (int thing = 0; thing < story.plan.things; thing++) {
            if (story.now.outerOf(thing) == room) {
                sum += story.plan.worths[thing];
            }
        }
        return sum;
    }

    public float litShare() throws ArithmeticException {
        int rooms = story.plan.rooms;
        if (rooms == 0) {
            throw new ArithmeticException("no rooms");
        }
        int lit = 0;
        for (int room = 0; room < rooms; room++) {
            lit += actor.sight.hasLight(room) ? 1 : 0;
        }
        return (float) lit / (float) rooms;
    }

    public double meanSize() throws ArithmeticException {
        int carried = 0;
        for (int thing = 0; thing < story.plan.things; thing++) {
            carried += story.now.outerOf(thing) == OUTER_CARRIED ? 1 : 0;
        }
        if (carried == 0) {
            throw new ArithmeticException("nothing is carried");
        }
        return (double) story.now.load() / (double) carried;
    }

    public int daemon(int daemon, int what) throws IndexOutOfBoundsException, IllegalArgumentException {
        if (!isWithin(daemon, 0, story.plan.daemons - 1)) {
            throw new IndexOutOfBoundsException("no such daemon");
        }
        checkRange(what, 0, 5);
        if (what == 3) {
            return story.now.isPlayed() ? story.now.dues[daemon] : NONE;
        }
        if (what == 4) {
            return story.now.isPlayed() ? story.now.caused[daemon] : 0;
        }
        return story.plan.daemonNumber(daemon, what);
    }

    public int event(int index) throws IndexOutOfBoundsException {
        if (!isWithin(index, 0, story.now.eventCount - 1)) {
            throw new IndexOutOfBoundsException("no such event");
        }
        return story.now.events[index];
    }

    public int outerLater(int thing, int turns)
            throws IndexOutOfBoundsException, IllegalArgumentException, IllegalStateException {
        checkThing(thing);
        checkRange(turns, 0, LATER_LIMIT);
        refuseUnlessPlayed();
        dreamer.world.copyFrom(story.now);
        for (int i = 0; i < turns; i++) {
            dreamer.clockwork.endTurn();
        }
        return dreamer.world.outerOf(thing);
    }

    public char letter(int noun, int index) throws IllegalArgumentException, IndexOutOfBoundsException {
        checkRange(noun, 0, NOUNS - 1);
        String letters = Words.textOf(Words.FIRST_NOUN + noun);
        if (!isWithin(index, 0, letters.length() - 1)) {
            throw new IndexOutOfBoundsException("no such letter");
        }
        return letters.charAt(index);
    }

    public int count(int what) throws IllegalArgumentException {
        checkRange(what, 0, 9);
        switch (what) {
            case 0: return story.plan.rooms;
            case 1: return story.plan.things;
            case 2: return story.plan.daemons;
            case 3: return story.now.isPlayed() ? story.now.clock : NONE;
            case 4: return story.now.player;
            case 5: return reader.length;
            case 6: return past.kept;
            case 7: return story.now.isPlayed() ? story.now.clock : 0;
            case 8: return story.now.eventCount;
            default: return story.now.load();
        }
    }

    public int save() {
        saved.copyFrom(story);
        hasSaved = true;
        return story.plan.things;
    }

    public int restore() throws IllegalStateException {
        if (!hasSaved) {
            throw new IllegalStateException("no snapshot");
        }
        past.forget();
        story.copyFrom(saved);
        return story.plan.things;
    }

    private void refuseWhilePlayed() {
        if (story.now.isPlayed()) {
            throw new IllegalStateException("the world is played");
        }
    }

    private void refuseUnlessPlayed() {
        if (!story.now.isPlayed()) {
            throw new IllegalStateException("the world is not played");
        }
    }

    private static void refuseFault(int fault) {
        if (fault != NONE) {
            throw new IllegalArgumentException("the text has a fault");
        }
    }

    private void checkRoom(int room) {
        if (!story.plan.isRoom(room)) {
            throw new IndexOutOfBoundsException("no such room");
        }
    }

    private void checkThing(int thing) {
        if (!story.plan.isThing(thing)) {
            throw new IndexOutOfBoundsException("no such thing");
        }
    }

    private void checkPlace(int place, int target) {
        checkRange(place, IN_ROOM, NOWHERE);
        boolean isMissing = place == IN_ROOM && !story.plan.isRoom(target)
                || (place == IN_CONTAINER || place == ON_SUPPORTER) && !story.plan.isThing(target);
        if (isMissing) {
            throw new IllegalArgumentException("no such room or thing");
        }
    }

    private void checkExit(int room, int direction) {
        checkRoom(room);
        checkRange(direction, 0, WAYS - 1);
        if (story.plan.exitOf(room, direction) == NONE) {
            throw new NoSuchElementException("no exit");
        }
    }

    private static void checkRange(int number, int least, int greatest) {
        if (!isWithin(number, least, greatest)) {
            throw new IllegalArgumentException("out of range");
        }
    }

    private static boolean isWithin(int number, int least, int greatest) {
        return number >= least && number <= greatest;
    }

    // Sets of flags, rooms, things and daemons are the bits of a number.

    private static boolean contains(int set, int member) {
        return member >= 0 && member < THING_LIMIT && (set >> member & 1) != 0;
    }

    private static int with(int set, int member, boolean isMember) {
        return isMember ? set | 1 << member : set & ~(1 << member);
    }

    /** The member of a set that has a number of lower ones below it, or NONE. */
    private static int member(int set, int lowerOnes) {
        int left = lowerOnes;
        for (int i = 0; i < THING_LIMIT; i++) {
            if (contains(set, i)) {
                if (left == 0) {
                    return i;
                }
                left--;
            }
        }
        return NONE;
    }

    /** What is fixed while the world is played. */
    private static final class Plan {
        int rooms;
        int things;
        int daemons;

        // Sets of rooms and of daemons.
        int light;
        int once;

        final int[] exits = new int[ROOM_LIMIT * WAYS];
        final int[] doors = new int[ROOM_LIMIT * WAYS];

        final int[] kinds = new int[THING_LIMIT];
        final int[] nouns = new int[THING_LIMIT];
        final int[] adjectives = new int[THING_LIMIT];
        final int[] sizes = new int[THING_LIMIT];
        final int[] capacities = new int[THING_LIMIT];
        final int[] worths = new int[THING_LIMIT];
        final int[] keys = new int[THING_LIMIT];

        final int[] daemonKinds = new int[DAEMON_LIMIT];
        final int[] daemonThings = new int[DAEMON_LIMIT];
        final int[] periods = new int[DAEMON_LIMIT];

        void copyFrom(Plan other) {
            rooms = other.rooms;
            things = other.things;
            daemons = other.daemons;
            light = other.light;
            once = other.once;
            System.arraycopy(other.exits, 0, exits, 0, ROOM_LIMIT * WAYS);
            System.arraycopy(other.doors, 0, doors, 0, ROOM_LIMIT * WAYS);
            System.arraycopy(other.kinds, 0, kinds, 0, THING_LIMIT);
            System.arraycopy(other.nouns, 0, nouns, 0, THING_LIMIT);
            System.arraycopy(other.adjectives, 0, adjectives, 0, THING_LIMIT);
            System.arraycopy(other.sizes, 0, sizes, 0, THING_LIMIT);
            System.arraycopy(other.capacities, 0, capacities, 0, THING_LIMIT);
            System.arraycopy(other.worths, 0, worths, 0, THING_LIMIT);
            System.arraycopy(other.keys, 0, keys, 0, THING_LIMIT);
            System.arraycopy(other.daemonKinds, 0, daemonKinds, 0, DAEMON_LIMIT);
            System.arraycopy(other.daemonThings, 0, daemonThings, 0, DAEMON_LIMIT);
            System.arraycopy(other.periods, 0, periods, 0, DAEMON_LIMIT);
        }

        /** The number of a room that is added, or NONE; so it is for things and daemons. */
        int newRoom(boolean isLight) {
            if (rooms >= ROOM_LIMIT) {
                return NONE;
            }
            int room = rooms;
            rooms++;
            light = with(light, room, isLight);
            for (int way = 0; way < WAYS; way++) {
                lead(room, way, NONE, NONE);
            }
            return room;
        }

        int newThing(int kind, int noun, int adjective, int size) {
            if (things >= THING_LIMIT) {
                return NONE;
            }
            int thing = things;
            things++;
            kinds[thing] = kind;
            nouns[thing] = noun;
            adjectives[thing] = adjective;
            sizes[thing] = size;
            capacities[thing] = 0;
            worths[thing] = 0;
            keys[thing] = NONE;
            return thing;
        }

        int newDaemon(int kind, int thing, int period, boolean actsOnce) {
            if (daemons >= DAEMON_LIMIT) {
                return NONE;
            }
            int daemon = daemons;
            daemons++;
            daemonKinds[daemon] = kind;
            daemonThings[daemon] = thing;
            periods[daemon] = period;
            once = with(once, daemon, actsOnce);
            return daemon;
        }

        void lead(int room, int way, int to, int through) {
            if (isRoom(room) && isWithin(way, 0, WAYS - 1)) {
                exits[room * WAYS + way] = to;
                doors[room * WAYS + way] = through;
            }
        }

        boolean isRoom(int room) {
            return room >= 0 && room < rooms;
        }

        boolean isThing(int thing) {
            return thing >= 0 && thing < things;
        }

        int exitOf(int room, int way) {
            boolean isKnown = room >= 0 && room < rooms && way >= 0 && way < WAYS;
            return isKnown ? exits[room * WAYS + way] : NONE;
        }

        int doorOf(int room, int way) {
            boolean isKnown = room >= 0 && room < rooms && way >= 0 && way < WAYS;
            return isKnown ? doors[room * WAYS + way] : NONE;
        }

        int kindOf(int thing) {
            return thing >= 0 && thing < things ? kinds[thing] : NONE;
        }

        boolean isHolder(int thing) {
            return kindOf(thing) == CONTAINER || kindOf(thing) == SUPPORTER;
        }

        /** Whether it can be open and locked, and have a key. */
        boolean isLockable(int thing) {
            return kindOf(thing) == CONTAINER || kindOf(thing) == DOOR;
        }

        boolean canHave(int thing, int flag) {
            switch (flag) {
                case FIXED: return isHolder(thing) || kindOf(thing) == OBJECT;
                case OPEN:
                case LOCKED: return isLockable(thing);
                case TRANSPARENT: return kindOf(thing) == CONTAINER;
                default: return kindOf(thing) == LAMP;
            }
        }

        boolean canServe(int thing, int daemonKind) {
            switch (daemonKind) {
                case CLOSER: return isLockable(thing);
                case MOVER: return kindOf(thing) != DOOR;
                case GATHERER: return kindOf(thing) == CONTAINER;
                default: return kindOf(thing) == LAMP;
            }
        }

        /** The things that a noun phrase names, wherever they are. */
        int named(int phrase) {
            int noun = Command.nounOf(phrase);
            int adjective = Command.adjectiveOf(phrase);
            int set = 0;
            for (int thing = 0; thing < things; thing++) {
                if (nouns[thing] == noun && (adjective == 0 || adjectives[thing] == adjective)) {
                    set |= 1 << thing;
                }
            }
            return set;
        }

        int doorsAround(int room) {
            int set = 0;
            for (int way = 0; way < WAYS; way++) {
                int door = doorOf(room, way);
                if (isThing(door)) {
                    set |= 1 << door;
                }
            }
            return set;
        }

        int numberOf(int thing, int what) {
            if (!isThing(thing)) {
                return NONE;
            }
            switch (what) {
                case 0: return kinds[thing];
                case 1: return nouns[thing];
                case 2: return adjectives[thing];
                case 3: return sizes[thing];
                case 4: return capacities[thing];
                case 5: return worths[thing];
                default: return keys[thing];
            }
        }

        int daemonNumber(int daemon, int what) {
            if (!isWithin(daemon, 0, daemons - 1)) {
                return NONE;
            }
            switch (what) {
                case 0: return daemonKinds[daemon];
                case 1: return daemonThings[daemon];
                case 2: return periods[daemon];
                default: return contains(once, daemon) ? 1 : 0;
            }
        }
    }

    /** What changes while the world is played. */
    private static final class World {
        final Plan plan;

        final int[] places = new int[THING_LIMIT];
        final int[] targets = new int[THING_LIMIT];
        final int[] flags = new int[THING_LIMIT];
        final int[] fuels = new int[THING_LIMIT];

        final int[] dues = new int[DAEMON_LIMIT];
        final int[] caused = new int[DAEMON_LIMIT];
        final int[] nextWays = new int[DAEMON_LIMIT];

        final int[] events = new int[EVENT_LIMIT];
        int eventCount;
        int clock;

        // NONE while the world is not played: then what is carried is shown in no room.
        int player = NONE;

        World(Plan plan) {
            this.plan = plan;
        }

        void copyFrom(World other) {
            System.arraycopy(other.places, 0, places, 0, THING_LIMIT);
            System.arraycopy(other.targets, 0, targets, 0, THING_LIMIT);
            System.arraycopy(other.flags, 0, flags, 0, THING_LIMIT);
            System.arraycopy(other.fuels, 0, fuels, 0, THING_LIMIT);
            System.arraycopy(other.dues, 0, dues, 0, DAEMON_LIMIT);
            System.arraycopy(other.caused, 0, caused, 0, DAEMON_LIMIT);
            System.arraycopy(other.nextWays, 0, nextWays, 0, DAEMON_LIMIT);
            System.arraycopy(other.events, 0, events, 0, EVENT_LIMIT);
            eventCount = other.eventCount;
            clock = other.clock;
            player = other.player;
        }

        boolean isLike(World other) {
            boolean isAlike = clock == other.clock && player == other.player
                    && eventCount == other.eventCount;
            for (int t = 0; t < plan.things; t++) {
                isAlike = isAlike && places[t] == other.places[t] && targets[t] == other.targets[t]
                        && flags[t] == other.flags[t] && fuels[t] == other.fuels[t];
            }
            for (int d = 0; d < plan.daemons; d++) {
                isAlike = isAlike && dues[d] == other.dues[d] && caused[d] == other.caused[d]
                        && nextWays[d] == other.nextWays[d];
            }
            for (int e = 0; e < eventCount; e++) {
                isAlike = isAlike && events[e] == other.events[e];
            }
            return isAlike;
        }

        boolean isPlayed() {
            return player != NONE;
        }

        void clear(int thing) {
            if (plan.isThing(thing)) {
                places[thing] = NOWHERE;
                targets[thing] = NONE;
                flags[thing] = 0;
                fuels[thing] = 0;
            }
        }

        void move(int thing, int place, int target) {
            if (plan.isThing(thing)) {
                places[thing] = place;
                targets[thing] = place == CARRIED || place == NOWHERE ? NONE : target;
            }
        }

        boolean has(int thing, int flag) {
            return thing >= 0 && thing < THING_LIMIT && (flags[thing] >> flag & 1) != 0;
        }

        void mark(int thing, int flag, boolean on) {
            if (plan.isThing(thing)) {
                flags[thing] = with(flags[thing], flag, on);
            }
        }

        boolean isCarried(int thing) {
            return plan.isThing(thing) && places[thing] == CARRIED;
        }

        boolean isHeld(int thing) {
            return thing >= 0 && thing < THING_LIMIT
                    && (places[thing] == IN_CONTAINER || places[thing] == ON_SUPPORTER);
        }

        boolean isMovable(int thing) {
            return plan.kindOf(thing) != DOOR && !has(thing, FIXED);
        }

        boolean isAt(int thing, int place, int target) {
            return thing >= 0 && thing < THING_LIMIT && places[thing] == place
                    && (targets[thing] == target || place == CARRIED || place == NOWHERE);
        }

        int directlyAt(int place, int target) {
            int set = 0;
            for (int t = 0; t < plan.things; t++) {
                if (isAt(t, place, target)) {
                    set |= 1 << t;
                }
            }
            return set;
        }

        int sizeInside(int holder) {
            int sum = 0;
            for (int t = 0; t < plan.things; t++) {
                // What is carried or nowhere has no target.
                boolean isInside = places[t] != IN_ROOM && targets[t] == holder;
                sum += isInside ? plan.sizes[t] : 0;
            }
            return sum;
        }

        /** The things that do not hide what is in or on them. */
        int bareHolders() {
            int set = 0;
            for (int t = 0; t < plan.things; t++) {
                boolean isBare = plan.kinds[t] == SUPPORTER
                        || (flags[t] & (1 << OPEN | 1 << TRANSPARENT)) != 0;
                set |= isBare ? 1 << t : 0;
            }
            return set;
        }

        int outerOf(int thing) {
            int outside = thing;
            for (int depth = 0; depth < THING_LIMIT && isHeld(outside); depth++) {
                outside = targets[outside];
            }
            if (!plan.isThing(outside) || places[outside] == NOWHERE) {
                return OUTER_NOWHERE;
            }
            return places[outside] == CARRIED ? OUTER_CARRIED : targets[outside];
        }

        /** Whether a thing is another one, or directly or through others in or on it. */
        boolean isPartOf(int thing, int whole) {
            int outside = thing;
            for (int depth = 0; depth < THING_LIMIT && outside != whole && isHeld(outside); depth++) {
                outside = targets[outside];
            }
            return outside == whole;
        }

        boolean isUnenclosed(int thing) {
            int outside = thing;
            for (int depth = 0; depth < THING_LIMIT && isHeld(outside); depth++) {
                if (places[outside] == IN_CONTAINER && !has(targets[outside], OPEN)) {
                    return false;
                }
                outside = targets[outside];
            }
            return true;
        }

        int load() {
            int sum = 0;
            for (int t = 0; t < plan.things; t++) {
                sum += outerOf(t) == OUTER_CARRIED ? plan.sizes[t] : 0;
            }
            return sum;
        }

        /** What the load would be if a thing came, with all in or on it, to what is carried. */
        int loadWith(int thing) {
            int sum = 0;
            for (int t = 0; t < plan.things; t++) {
                boolean counts = outerOf(t) == OUTER_CARRIED || isPartOf(t, thing);
                sum += counts ? plan.sizes[t] : 0;
            }
            return sum;
        }

        boolean fits(int thing, int holder) {
            if (!plan.isThing(thing) || !plan.isThing(holder)) {
                return false;
            }
            int others = sizeInside(holder);
            if (isHeld(thing) && targets[thing] == holder) {
                others -= plan.sizes[thing];
            }
            return others + plan.sizes[thing] <= plan.capacities[holder];
        }

        boolean allows(int thing, int place, int target) {
            if (place == CARRIED) {
                return loadWith(thing) <= LOAD_LIMIT;
            }
            if (place != IN_CONTAINER && place != ON_SUPPORTER) {
                return true;
            }
            boolean isTooHeavy = outerOf(target) == OUTER_CARRIED && loadWith(thing) > LOAD_LIMIT;
            return !isPartOf(target, thing) && fits(thing, target) && !isTooHeavy;
        }

        boolean isPassable(int room, int way) {
            int door = plan.doorOf(room, way);
            return plan.exitOf(room, way) != NONE && (door == NONE || has(door, OPEN));
        }

        /** The least number of exits from a room to another one, or NONE. */
        int steps(int from, int to) {
            int reached = 1 << from;
            for (int steps = 0; steps < ROOM_LIMIT; steps++) {
                if (contains(reached, to)) {
                    return steps;
                }
                reached |= neighbours(reached);
            }
            return NONE;
        }

        private int neighbours(int rooms) {
            int set = 0;
            for (int room = 0; room < plan.rooms; room++) {
                for (int way = 0; contains(rooms, room) && way < WAYS; way++) {
                    if (isPassable(room, way)) {
                        set |= 1 << plan.exitOf(room, way);
                    }
                }
            }
            return set;
        }

        void note(int kind, int thing) {
            if (eventCount >= EVENT_LIMIT) {
                System.arraycopy(events, 1, events, 0, EVENT_LIMIT - 1);
                eventCount = EVENT_LIMIT - 1;
            }
            events[eventCount] = kind * EVENT_UNIT + thing;
            eventCount++;
        }

        int numberOf(int thing, int what) {
            if (!plan.isThing(thing)) {
                return NONE;
            }
            switch (what) {
                case 6: return fuels[thing];
                case 8: return flags[thing];
                case 9: return places[thing];
                case 10: return targets[thing];
                default: return sizeInside(thing);
            }
        }
    }

    /** Light and scope in a world. */
    private static final class Sight {
        private final Plan plan;
        private final World world;

        Sight(Plan plan, World world) {
            this.plan = plan;
            this.world = world;
        }

        boolean hasLight(int room) {
            return isLitBy(room, shownIn(room));
        }

        int visible() {
            int room = world.player;
            int shown = shownIn(room);
            if (isLitBy(room, shown)) {
                return shown | plan.doorsAround(room);
            }
            return withInsides(world.directlyAt(CARRIED, NONE));
        }

        private int shownIn(int room) {
            int set = world.directlyAt(IN_ROOM, room);
            if (room == world.player) {
                set |= world.directlyAt(CARRIED, NONE);
            }
            return withInsides(set);
        }

        private boolean isLitBy(int room, int shown) {
            if (contains(plan.light, room)) {
                return true;
            }
            for (int t = 0; t < plan.things; t++) {
                if (contains(shown, t) && world.has(t, LIT)) {
                    return true;
                }
            }
            return false;
        }

        /** A set of things with all that can be seen in or on them. */
        private int withInsides(int set) {
            int bare = world.bareHolders();
            int seen = set;
            for (int depth = 0; depth < THING_LIMIT; depth++) {
                int more = seen;
                for (int t = 0; t < plan.things; t++) {
                    if (world.isHeld(t) && contains(more & bare, world.targets[t])) {
                        more |= 1 << t;
                    }
                }
                if (more == seen) {
                    return seen;
                }
                seen = more;
            }
            return seen;
        }
    }

    /** What happens at the end of each turn: daemons act and lamps burn. */
    private static final class Clockwork {
        private final Plan plan;
        private final World world;

        Clockwork(Plan plan, World world) {
            this.plan = plan;
            this.world = world;
        }

        void endTurn() {
            world.clock++;
            for (int daemon = 0; daemon < plan.daemons; daemon++) {
                if (world.dues[daemon] == world.clock) {
                    run(daemon);
                }
            }
            for (int thing = 0; thing < plan.things; thing++) {
                if (world.has(thing, LIT)) {
                    burn(thing);
                }
            }
        }

        private void burn(int lamp) {
            world.fuels[lamp]--;
            if (world.fuels[lamp] <= 0) {
                world.mark(lamp, LIT, false);
                world.note(BURNED_EVENT, lamp);
            }
        }

        private void run(int daemon) {
            int thing = plan.daemonThings[daemon];
            boolean hasActed;
            switch (plan.daemonKinds[daemon]) {
                case CLOSER: hasActed = shut(thing); break;
                case MOVER: hasActed = moveOn(daemon, thing); break;
                case GATHERER: hasActed = gather(thing); break;
                default: hasActed = toggle(thing); break;
            }
            world.caused[daemon] += hasActed ? 1 : 0;
            world.dues[daemon] = contains(plan.once, daemon) ? NONE : world.clock + plan.periods[daemon];
        }

        private boolean shut(int thing) {
            if (!world.has(thing, OPEN)) {
                return false;
            }
            world.mark(thing, OPEN, false);
            world.note(CLOSED_EVENT, thing);
            return true;
        }

        private boolean moveOn(int daemon, int thing) {
            if (!plan.isThing(thing) || world.places[thing] != IN_ROOM) {
                return false;
            }
            int room = world.targets[thing];
            for (int i = 0; i < WAYS; i++) {
                int way = (world.nextWays[daemon] + i) % WAYS;
                if (world.isPassable(room, way)) {
                    world.move(thing, IN_ROOM, plan.exitOf(room, way));
                    world.nextWays[daemon] = (way + 1) % WAYS;
                    world.note(MOVED_EVENT, thing);
                    return true;
                }
            }
            return false;
        }

        private boolean gather(int container) {
            boolean isReady = plan.isThing(container) && world.has(container, OPEN)
                    && world.places[container] == IN_ROOM;
            for (int t = 0; isReady && t < plan.things; t++) {
                boolean isFree = t != container && world.isMovable(t)
                        && world.isAt(t, IN_ROOM, world.targets[container]);
                if (isFree && world.fits(t, container)) {
                    world.move(t, IN_CONTAINER, container);
                    world.note(GATHERED_EVENT, t);
                    return true;
                }
            }
            return false;
        }

        private boolean toggle(int lamp) {
            if (!plan.isThing(lamp)) {
                return false;
            }
            boolean isLit = world.has(lamp, LIT);
            if (!isLit && world.fuels[lamp] == 0) {
                return false;
            }
            world.mark(lamp, LIT, !isLit);
            world.note(isLit ? QUENCHED_EVENT : LIT_EVENT, lamp);
            return true;
        }
    }

    /** Carries out commands in a world, or finds the reason why not. */
    private static final class Actor {
        final World world;
        final Sight sight;
        final Clockwork clockwork;
        private final Plan plan;

        // Of the latest command; the reason is 0 if it was carried out.
        int reason;
        int concerned;

        Actor(Plan plan, World world) {
            this.plan = plan;
            this.world = world;
            sight = new Sight(plan, world);
            clockwork = new Clockwork(plan, world);
        }

        boolean act(int code) {
            int verb = Command.verbOf(code);
            reason = 0;
            concerned = NONE;
            if (verb < WAYS) {
                walk(verb);
            } else if (verb == Words.LOOK) {
                look();
            } else if (Command.firstOf(code) == Command.ALL) {
                refuseUnlessMoved(verb == Words.TAKE ? takeAll() : dropAll());
            } else if (verb >= Words.PUT) {
                actOnTwo(code);
            } else if (verb != Words.WAIT) {
                actOnOne(verb, Command.firstOf(code));
            }
            if (reason != 0) {
                return false;
            }
            if (Command.isTurn(code)) {
                clockwork.endTurn();
            }
            return true;
        }

        private void refuse(int why, int thing) {
            reason = why;
            concerned = thing;
        }

        private void look() {
            if (!sight.hasLight(world.player)) {
                refuse(DARK, NONE);
            }
        }

        private void walk(int way) {
            if (plan.exitOf(world.player, way) == NONE) {
                refuse(NO_EXIT, NONE);
            } else if (!world.isPassable(world.player, way)) {
                refuse(WRONG_STATE, plan.doorOf(world.player, way));
            } else {
                world.player = plan.exitOf(world.player, way);
            }
        }

        private void refuseUnlessMoved(int moved) {
            if (moved == 0) {
                refuse(SO_ALREADY, NONE);
            }
        }

        private int takeAll() {
            // Nothing that lies directly in a room is in a container, so what is visible is reachable.
            int free = world.directlyAt(IN_ROOM, world.player) & sight.visible();
            int taken = 0;
            for (int t = 0; t < plan.things; t++) {
                boolean isFree = contains(free, t) && world.isMovable(t);
                if (isFree && world.loadWith(t) <= LOAD_LIMIT) {
                    world.move(t, CARRIED, NONE);
                    taken++;
                }
            }
            return taken;
        }

        private int dropAll() {
            int dropped = 0;
            for (int t = 0; t < plan.things; t++) {
                if (world.isCarried(t)) {
                    world.move(t, IN_ROOM, world.player);
                    dropped++;
                }
            }
            return dropped;
        }

        private void actOnOne(int verb, int phrase) {
            int visible = sight.visible();
            int thing = meaning(phrase, visible, verb);
            if (reason == 0) {
                reachFor(thing);
            }
            if (reason != 0) {
                return;
            }
            switch (verb) {
                case Words.TAKE: take(thing); break;
                case Words.DROP: drop(thing); break;
                case Words.OPEN: open(thing); break;
                case Words.CLOSE: close(thing); break;
                case Words.LIGHT: light(thing); break;
                default: quench(thing); break;
            }
        }

        private void actOnTwo(int code) {
            int verb = Command.verbOf(code);
            int visible = sight.visible();
            int second = NONE;
            int first = meaning(Command.firstOf(code), visible, verb);
            if (reason == 0) {
                second = meaning(Command.secondOf(code), visible, NONE);
            }
            if (reason == 0) {
                reachFor(first);
            }
            if (reason == 0) {
                reachFor(second);
            }
            if (reason != 0) {
                return;
            }
            switch (verb) {
                case Words.PUT: insert(first, second, Command.placeOf(code)); break;
                case Words.LOCK: lock(first, second); break;
                default: unlock(first, second); break;
            }
        }

        /** The thing that a noun phrase means for a verb; NONE, and a reason, if there is no such one. */
        private int meaning(int phrase, int visible, int verb) {
            int named = plan.named(phrase) & visible;
            int carried = named & world.directlyAt(CARRIED, NONE);
            int preferred = 0;
            if (verb == Words.TAKE) {
                preferred = named & ~carried;
            } else if (verb == Words.DROP || verb == Words.PUT) {
                preferred = carried;
            }
            int meant = preferred != 0 ? preferred : named;
            if (meant == 0) {
                refuse(MEANS_NOTHING, NONE);
                return NONE;
            }
            if (member(meant, 1) != NONE) {
                refuse(MEANS_SEVERAL, NONE);
                return NONE;
            }
            return member(meant, 0);
        }

        private void reachFor(int visibleThing) {
            if (!world.isUnenclosed(visibleThing)) {
                refuse(OUT_OF_REACH, visibleThing);
            }
        }

        private void take(int thing) {
            if (!world.isMovable(thing)) {
                refuse(STAYS_PUT, thing);
            } else if (world.isCarried(thing)) {
                refuse(SO_ALREADY, NONE);
            } else if (world.loadWith(thing) > LOAD_LIMIT) {
                refuse(TOO_MUCH, thing);
            } else {
                world.move(thing, CARRIED, NONE);
            }
        }

        private void drop(int thing) {
            if (!world.isCarried(thing)) {
                refuse(SO_ALREADY, NONE);
            } else {
                world.move(thing, IN_ROOM, world.player);
            }
        }

        private void insert(int thing, int holder, int place) {
            int kind = place == IN_CONTAINER ? CONTAINER : SUPPORTER;
            boolean isTooHeavy = world.outerOf(holder) == OUTER_CARRIED
                    && world.loadWith(thing) > LOAD_LIMIT;
            if (!world.isMovable(thing)) {
                refuse(STAYS_PUT, thing);
            } else if (plan.kindOf(holder) != kind) {
                refuse(WRONG_KIND, holder);
            } else if (world.isPartOf(holder, thing)) {
                refuse(IN_ITSELF, thing);
            } else if (kind == CONTAINER && !world.has(holder, OPEN)) {
                refuse(WRONG_STATE, holder);
            } else if (world.isAt(thing, place, holder)) {
                refuse(SO_ALREADY, NONE);
            } else if (isTooHeavy || !world.fits(thing, holder)) {
                refuse(TOO_MUCH, holder);
            } else {
                world.move(thing, place, holder);
            }
        }

        private void open(int thing) {
            if (!plan.isLockable(thing)) {
                refuse(WRONG_KIND, thing);
            } else if (world.has(thing, OPEN)) {
                refuse(SO_ALREADY, NONE);
            } else if (world.has(thing, LOCKED)) {
                refuse(WRONG_STATE, thing);
            } else {
                world.mark(thing, OPEN, true);
            }
        }

        private void close(int thing) {
            if (!plan.isLockable(thing)) {
                refuse(WRONG_KIND, thing);
            } else if (!world.has(thing, OPEN)) {
                refuse(SO_ALREADY, NONE);
            } else {
                world.mark(thing, OPEN, false);
            }
        }

        private void lock(int thing, int key) {
            if (!plan.isLockable(thing)) {
                refuse(WRONG_KIND, thing);
            } else if (world.has(thing, LOCKED)) {
                refuse(SO_ALREADY, NONE);
            } else if (world.has(thing, OPEN)) {
                refuse(WRONG_STATE, thing);
            } else if (plan.keys[thing] != key) {
                refuse(WRONG_KEY, key);
            } else {
                world.mark(thing, LOCKED, true);
            }
        }

        private void unlock(int thing, int key) {
            if (!plan.isLockable(thing)) {
                refuse(WRONG_KIND, thing);
            } else if (!world.has(thing, LOCKED)) {
                refuse(SO_ALREADY, NONE);
            } else if (plan.keys[thing] != key) {
                refuse(WRONG_KEY, key);
            } else {
                world.mark(thing, LOCKED, false);
            }
        }

        private void light(int thing) {
            if (plan.kindOf(thing) != LAMP) {
                refuse(WRONG_KIND, thing);
            } else if (world.has(thing, LIT)) {
                refuse(SO_ALREADY, NONE);
            } else if (world.fuels[thing] == 0) {
                refuse(NO_FUEL, thing);
            } else {
                world.mark(thing, LIT, true);
            }
        }

        private void quench(int thing) {
            if (plan.kindOf(thing) != LAMP) {
                refuse(WRONG_KIND, thing);
            } else if (!world.has(thing, LIT)) {
                refuse(SO_ALREADY, NONE);
            } else {
                world.mark(thing, LIT, false);
            }
        }
    }

    /** What a snapshot contains. */
    private static final class Story {
        final Plan plan;
        final World now;

        // The world when play began, for stop and for the replay.
        final World begun;

        // The command of each turn: as many count as the clock tells.
        final int[] turns = new int[TURN_LIMIT];

        Story(Plan plan, World now, World begun) {
            this.plan = plan;
            this.now = now;
            this.begun = begun;
        }

        void copyFrom(Story other) {
            plan.copyFrom(other.plan);
            now.copyFrom(other.now);
            begun.copyFrom(other.begun);
            System.arraycopy(other.turns, 0, turns, 0, TURN_LIMIT);
        }

        void open(int room) {
            now.player = room;
            now.clock = 0;
            now.eventCount = 0;
            for (int daemon = 0; daemon < plan.daemons; daemon++) {
                now.dues[daemon] = plan.periods[daemon];
                now.caused[daemon] = 0;
                now.nextWays[daemon] = 0;
            }
            begun.copyFrom(now);
        }

        void close() {
            now.copyFrom(begun);
            now.player = NONE;
        }

        int turnsTaken() {
            return now.clock < TURN_LIMIT ? now.clock : TURN_LIMIT;
        }

        void record(int code) {
            int turn = now.clock - 1;
            if (isWithin(turn, 0, TURN_LIMIT - 1)) {
                turns[turn] = code;
            }
        }
    }

    /** The worlds before the latest turns. */
    private static final class Past {
        // One more than can be undone, so that a command that is refused does not cost the oldest one.
        private static final int SLOTS = UNDO_LIMIT + 1;

        private final World[] slots = new World[SLOTS];
        private int first;
        int kept;

        Past(Plan plan) {
            for (int i = 0; i < SLOTS; i++) {
                slots[i] = new World(plan);
            }
        }

        /** Keeps a world in the free slot, in case that a turn is taken. */
        void prepare(World world) {
            slots[(first + kept) % SLOTS].copyFrom(world);
        }

        void keep() {
            if (kept < UNDO_LIMIT) {
                kept++;
            } else {
                first = (first + 1) % SLOTS;
            }
        }

        void bringBack(World world) {
            if (kept > 0) {
                kept--;
                world.copyFrom(slots[(first + kept) % SLOTS]);
            }
        }

        void forget() {
            kept = 0;
        }
    }

    /** The words of the commands, by their numbers. */
    private static final class Words {
        // The directions have the numbers from 0.
        static final int LOOK = 6;
        static final int WAIT = 7;
        static final int GO = 8;
        static final int TAKE = 9;
        static final int DROP = 10;
        static final int OPEN = 11;
        static final int CLOSE = 12;
        static final int LIGHT = 13;
        static final int QUENCH = 14;
        static final int PUT = 15;
        static final int LOCK = 16;
        static final int UNLOCK = 17;
        static final int FIRST_NOUN = 18;
        static final int FIRST_ADJECTIVE = FIRST_NOUN + NOUNS;
        static final int ALL = FIRST_ADJECTIVE + ADJECTIVES;
        static final int IN = ALL + 1;
        static final int ON = IN + 1;
        static final int WITH = ON + 1;
        static final int NEXT = WITH + 1;

        static String textOf(int word) {
            if (word < FIRST_NOUN) {
                return startOf(word);
            }
            switch (word) {
                case FIRST_NOUN: return "box";
                case FIRST_NOUN + 1: return "lamp";
                case FIRST_NOUN + 2: return "key";
                case FIRST_NOUN + 3: return "door";
                case FIRST_NOUN + 4: return "coin";
                case FIRST_NOUN + 5: return "rope";
                case FIRST_NOUN + 6: return "book";
                case FIRST_NOUN + 7: return "bell";
                case FIRST_ADJECTIVE: return "red ";
                case FIRST_ADJECTIVE + 1: return "old ";
                case FIRST_ADJECTIVE + 2: return "big ";
                case ALL: return "all";
                case IN: return " in ";
                case ON: return " on ";
                case WITH: return " with ";
                default: return ". ";
            }
        }

        private static String startOf(int word) {
            switch (word) {
                case 0: return "north";
                case 1: return "east";
                case 2: return "south";
                case 3: return "west";
                case 4: return "up";
                case 5: return "down";
                case LOOK: return "look";
                case WAIT: return "wait";
                case GO: return "go ";
                case TAKE: return "take ";
                case DROP: return "drop ";
                case OPEN: return "open ";
                case CLOSE: return "close ";
                case LIGHT: return "light ";
                case QUENCH: return "quench ";
                case PUT: return "put ";
                case LOCK: return "lock ";
                default: return "unlock ";
            }
        }
    }

    /** A command that was read, as one number, so that texts and turns are rows of numbers. */
    private static final class Command {
        static final int ALL = 63;

        static int phraseOf(int noun, int adjective) {
            return adjective * NOUNS + noun;
        }

        static int nounOf(int phrase) {
            return phrase & NOUNS - 1;
        }

        static int adjectiveOf(int phrase) {
            return phrase / NOUNS;
        }

        static int codeOf(int verb, int first, int second, int place) {
            return verb | first << 8 | second << 16 | place << 24;
        }

        static int verbOf(int code) {
            return code & 255;
        }

        static int firstOf(int code) {
            return code >> 8 & 255;
        }

        static int secondOf(int code) {
            return code >> 16 & 255;
        }

        static int placeOf(int code) {
            return code >> 24 & 255;
        }

        static boolean isTurn(int code) {
            return verbOf(code) != Words.LOOK;
        }
    }

    /** The text buffer, and how it is read. */
    private static final class Reader {
        private final char[] text = new char[TEXT_LIMIT];
        int length;

        // What the latest reading found.
        final int[] codes = new int[COMMAND_LIMIT];
        int codeCount;
        int phrase;

        private int at;
        private int fault;

        /** How many characters a packed number stands for, or NONE if there is a wrong one. */
        int charactersIn(int packed) {
            int characters = 0;
            for (int shift = 24; shift >= 0; shift -= 8) {
                int code = packed >> shift & 255;
                if (code != 0 && !isWithin(code, 32, 126)) {
                    return NONE;
                }
                characters += code != 0 ? 1 : 0;
            }
            return characters;
        }

        void add(int packed) {
            for (int shift = 24; shift >= 0; shift -= 8) {
                int code = packed >> shift & 255;
                if (code != 0 && length < TEXT_LIMIT) {
                    text[length] = (char) code;
                    length++;
                }
            }
        }

        void empty() {
            length = 0;
        }

        /** Reads the text as commands; answers the fault position, or NONE. */
        int readCommands() {
            at = 0;
            fault = NONE;
            codeCount = 0;
            // A full text can end where one command more than fit into it would begin.
            for (int i = 0; i <= COMMAND_LIMIT && fault == NONE; i++) {
                int code = readCommand();
                if (fault == NONE && codeCount < COMMAND_LIMIT) {
                    codes[codeCount] = code;
                    codeCount++;
                }
                if (fault == NONE && at == length) {
                    return NONE;
                }
                if (fault == NONE) {
                    readWord(Words.NEXT, Words.NEXT);
                }
            }
            return fault;
        }

        /** Reads the text as one noun phrase; answers the fault position, or NONE. */
        int readOnePhrase() {
            at = 0;
            fault = NONE;
            phrase = readPhrase(false);
            if (fault == NONE && at < length) {
                fault = at;
            }
            return fault;
        }

        private int readCommand() {
            int verb = readWord(0, Words.UNLOCK);
            if (verb == Words.GO) {
                verb = readWord(0, WAYS - 1);
            }
            if (fault != NONE || verb <= Words.WAIT) {
                return Command.codeOf(verb, 0, 0, 0);
            }
            int first = readPhrase(verb == Words.TAKE || verb == Words.DROP);
            if (fault != NONE || verb < Words.PUT) {
                return Command.codeOf(verb, first, 0, 0);
            }
            int link = verb == Words.PUT
                    ? readWord(Words.IN, Words.ON) : readWord(Words.WITH, Words.WITH);
            int place = link == Words.IN ? IN_CONTAINER : ON_SUPPORTER;
            int second = fault == NONE ? readPhrase(false) : NONE;
            return Command.codeOf(verb, first, second, place);
        }

        private int readPhrase(boolean orAll) {
            int word = readWord(Words.FIRST_NOUN, orAll ? Words.ALL : Words.ALL - 1);
            if (word == Words.ALL) {
                return Command.ALL;
            }
            int adjective = 0;
            if (word >= Words.FIRST_ADJECTIVE) {
                adjective = word - Words.FIRST_ADJECTIVE + 1;
                word = readWord(Words.FIRST_NOUN, Words.FIRST_ADJECTIVE - 1);
            }
            return Command.phraseOf(word - Words.FIRST_NOUN, adjective);
        }

        /** Reads the word of a range that is next. No word begins with another one, so at most one is. */
        private int readWord(int from, int to) {
            int furthest = 0;
            for (int word = from; word <= to; word++) {
                String letters = Words.textOf(word);
                int agreeing = agreement(letters);
                if (agreeing == letters.length()) {
                    at += agreeing;
                    return word;
                }
                furthest = Math.max(furthest, agreeing);
            }
            fault = at + furthest;
            return NONE;
        }

        private int agreement(String letters) {
            int agreeing = 0;
            while (agreeing < letters.length() && at + agreeing < length
                    && text[at + agreeing] == letters.charAt(agreeing)) {
                agreeing++;
            }
            return agreeing;
        }
    }
}
