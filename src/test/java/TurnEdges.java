import java.util.ArrayList;
import java.util.List;

/** The parts Turns, Daemons, Events and Changes, what Details adds to them, and the promises 20, 21 and 34 to 36. */
final class TurnEdges extends Edges {
    private static int lamp(Game g, int fuel) {
        return lamp(g, fuel, true, NOWHERE, 0);
    }

    @Sentence(of = "Description, Turns", says = "Each command that is carried out, except look, is a turn: the clock")
    static void eachCommandIsATurn() {
        String[] commands = {"wait", "open door", "go north", "south", "close door", "lock door with coin",
            "unlock door with coin", "take coin", "drop coin", "take all", "drop all", "open box", "put coin in box",
            "put lamp on bell", "light lamp", "quench lamp", "close box"};
        Game g = rooms(true, true);
        object(g, COIN, 1, IN_ROOM, 0);
        int box = holder(g, CONTAINER, BOX, 1, 9);
        g.put(box, IN_ROOM, 0);
        int bell = holder(g, SUPPORTER, BELL, 1, 9);
        g.put(bell, IN_ROOM, 0);
        lamp(g, 99, false, IN_ROOM, 0);
        int door = g.addThing(DOOR, GATE, 0, 1);
        g.setKey(door, 0);
        g.connect(0, NORTH, 1, door);
        g.connect(1, SOUTH, 0, door);
        g.begin(0);
        for (int i = 0; i < commands.length; i++) {
            final int clock = i;
            due(clock, () -> g.count(3));
            says(g, commands[i], "done 1");
            says(g, "look", "done 1");
            due(clock + 1, () -> g.count(3));
            says(g, "take rope", "done 0, 1 -1 0");
        }
        Game many = rooms(true);
        many.begin(0);
        says(many, "wait. look. wait. look. wait", "done 5");
        due(3, () -> many.count(3));
    }

    @Sentence(of = "Description, Turns", says = "Each command that is carried out, except look, is a turn: the clock")
    static void daemonsFirstThenLamps() {
        Game g = rooms(true);
        int box = openBox(g, NOWHERE, 0);
        int last = lamp(g, 1);
        int switched = lamp(g, 1, false, NOWHERE, 0);
        int quenched = lamp(g, 1);
        int two = lamp(g, 2);
        g.addDaemon(SWITCHER, quenched, 1, true);
        g.addDaemon(SWITCHER, switched, 1, true);
        g.addDaemon(CLOSER, box, 1, true);
        g.addDaemon(CLOSER, box, 1, true);
        g.begin(0);
        waits(g, 1);
        // The daemons in their order, then the lamps in theirs, one of which was lit and one quenched just now.
        due("503 402 100 601 602", g::events);
        due(1, () -> g.thing(quenched, 6));
        due(0, () -> g.thing(switched, 6));
        due(0, () -> g.thing(last, 8));
        due(1, () -> g.thing(two, 6));
        due(flags(LIT), () -> g.thing(two, 8));
        waits(g, 1);
        due("503 402 100 601 602 604", g::events);
        due(0, () -> g.thing(two, 8));
        waits(g, 1);
        due(0, () -> g.thing(two, 6));
    }

    @Sentence(of = "Description, Turns", says = "Each command that is carried out, except look, is a turn: the clock")
    static void sixteenLampsBurnDown() {
        Game g = rooms(true);
        for (int lamp = 0; lamp < 16; lamp++) {
            lamp(g, lamp < 8 ? 2 : 1);
        }
        g.begin(0);
        waits(g, 2);
        due("608 609 610 611 612 613 614 615 600 601 602 603 604 605 606 607", g::events);
        Game all = rooms(true);
        int lamp = lamp(all, 99);
        all.begin(0);
        waits(all, 98);
        due(1, () -> all.thing(lamp, 6));
        due(flags(LIT), () -> all.thing(lamp, 8));
        waits(all, 1);
        due(0, () -> all.thing(lamp, 6));
        due(0, () -> all.thing(lamp, 8));
        due("600", all::events);
    }

    @Sentence(of = "Description, Daemons", says = "At most 6 daemons are kept, numbered from 0.")
    static void sixDaemons() {
        Game g = rooms(true);
        openBox(g, NOWHERE, 0);
        due(0, () -> g.count(2));
        due(INDEX, () -> g.daemon(0, 0));
        for (int daemon = 0; daemon < 6; daemon++) {
            final int d = daemon;
            due(d, () -> g.addDaemon(CLOSER, 0, d + 1, false));
            due(d + 1, () -> g.count(2));
            due(INDEX, () -> g.daemon(d + 1, 0));
        }
        due(STATE, () -> g.addDaemon(CLOSER, 0, 1, false));
        due(6, () -> g.count(2));
        g.begin(0);
        for (int daemon = 0; daemon < 6; daemon++) {
            final int d = daemon;
            due(d + 1, () -> g.daemon(d, 3));
        }
    }

    @Sentence(of = "Description, Daemons", says = "A daemon has a kind, a thing and a period from 1 to 20.")
    static void eachPeriod() {
        for (int period = -1; period <= 22; period++) {
            final int p = period;
            Game g = rooms(true);
            lamp(g, 99);
            boolean isPeriod = 1 <= period && period <= 20;
            due(isPeriod ? 0 : ARGUMENT, () -> g.addDaemon(SWITCHER, 0, p, false));
            due(isPeriod ? p : INDEX, () -> g.daemon(0, 2));
            due(isPeriod ? SWITCHER : INDEX, () -> g.daemon(0, 0));
            due(isPeriod ? 0 : INDEX, () -> g.daemon(0, 1));
        }
    }

    @Sentence(of = "Description, Daemons", says = "Its time is its period at first, and the clock plus its period")
    static void theTimeOfADaemon() {
        for (int period = 1; period <= 20; period++) {
            for (boolean once : new boolean[] {false, true}) {
                final int p = period;
                Game g = rooms(true);
                lamp(g, 99);
                g.addDaemon(SWITCHER, 0, p, once);
                g.begin(0);
                due(p, () -> g.daemon(0, 3));
                waits(g, p - 1);
                due(p, () -> g.daemon(0, 3));
                due(0, () -> g.daemon(0, 4));
                waits(g, 1);
                due(once ? -1 : 2 * p, () -> g.daemon(0, 3));
                due(1, () -> g.daemon(0, 4));
                waits(g, p - 1);
                due(1, () -> g.daemon(0, 4));
                waits(g, 1);
                due(once ? -1 : 3 * p, () -> g.daemon(0, 3));
                due(once ? 1 : 2, () -> g.daemon(0, 4));
            }
        }
    }

    @Sentence(of = "Description, Daemons", says = "A daemon of the kind 0 closes its thing, a container or door, if")
    static void theOneThatCloses() {
        for (int thing : new int[] {CONTAINER, DOOR}) {
            for (int flag : new int[] {-1, OPEN, LOCKED}) {
                Game g = oneOfEach();
                if (flag >= 0) {
                    g.setFlag(thing, flag, true);
                }
                if (thing == CONTAINER) {
                    g.setFlag(thing, TRANSPARENT, true);
                    g.setFlag(thing, FIXED, true);
                }
                g.addDaemon(CLOSER, thing, 1, false);
                g.begin(1);
                waits(g, 1);
                int others = thing == CONTAINER ? flags(TRANSPARENT, FIXED) : 0;
                due(others | (flag == LOCKED ? flags(LOCKED) : 0), () -> g.thing(thing, 8));
                due(flag == OPEN ? "10" + thing : "", g::events);
                due(flag == OPEN ? 1 : 0, () -> g.daemon(1, 4));
                due(2, () -> g.daemon(1, 3));
            }
        }
    }

    /** A coin in room 7, whose only exit leads in one direction to room 0; from there, exits lead to other rooms. */
    private static Game crossing(int last, int openExits) {
        Game g = manyRooms(8);
        int coin = object(g, COIN, 1, IN_ROOM, 7);
        int door = g.addThing(DOOR, GATE, 0, 1);
        g.connect(7, last, 0, -1);
        for (int direction = NORTH; direction <= DOWN; direction++) {
            boolean isOpen = (openExits >> direction & 1) != 0;
            if (isOpen || direction % 2 == 0) {
                g.connect(0, direction, direction + 1, isOpen ? -1 : door);
            }
        }
        g.addDaemon(MOVER, coin, 1, false);
        g.begin(7);
        return g;
    }

    @Sentence(of = "Description, Daemons", says = "One of the kind 1 moves its thing, if that is in a room, through")
    static void theOneThatMoves() {
        for (int last = NORTH; last <= DOWN; last++) {
            for (int exits = 0; exits < 64; exits++) {
                Game g = crossing(last, exits);
                waits(g, 1);
                due(0, () -> g.outer(0));
                waits(g, 1);
                int room = 0;
                for (int i = 6; i > 0; i--) {
                    int direction = (last + i) % 6;
                    room = (exits >> direction & 1) != 0 ? direction + 1 : room;
                }
                final int want = room;
                due(want, () -> g.outer(0));
                due(want == 0 ? "200" : "200 200", g::events);
            }
        }
    }

    @Sentence(of = "Description, Daemons", says = "One of the kind 1 moves its thing, if that is in a room, through")
    static void itBeginsWithNorth() {
        for (int exits = 0; exits < 64; exits++) {
            Game g = crossing(NORTH, exits);
            g.stop();
            g.put(0, IN_ROOM, 0);
            g.begin(7);
            waits(g, 1);
            int room = 0;
            for (int direction = DOWN; direction >= NORTH; direction--) {
                room = (exits >> direction & 1) != 0 ? direction + 1 : room;
            }
            final int want = room;
            due(want, () -> g.outer(0));
        }
    }

    @Sentence(of = "Description, Daemons", says = "One of the kind 1 moves its thing, if that is in a room, through")
    static void itMovesOnlyInRoomsAndThroughOpenDoors() {
        for (int place = INSIDE; place <= NOWHERE; place++) {
            Game g = rooms(true, true);
            int box = openBox(g, IN_ROOM, 0);
            int bell = holder(g, SUPPORTER, BELL, 1, 9);
            g.put(bell, IN_ROOM, 0);
            int coin = object(g, COIN, 1, place, place == INSIDE ? box : bell);
            g.connect(0, NORTH, 1, -1);
            g.addDaemon(MOVER, coin, 1, false);
            final int p = place;
            g.begin(0);
            waits(g, 2);
            due(p, () -> g.thing(coin, 9));
            due("", g::events);
            due(3, () -> g.daemon(0, 3));
            due(0, () -> g.daemon(0, 4));
        }
        for (int flag : new int[] {-1, OPEN, LOCKED}) {
            Game g = rooms(true, true);
            int coin = object(g, COIN, 1, IN_ROOM, 0);
            int door = g.addThing(DOOR, GATE, 0, 1);
            if (flag >= 0) {
                g.setFlag(door, flag, true);
            }
            g.connect(0, DOWN, 1, door);
            g.addDaemon(MOVER, coin, 1, false);
            g.begin(0);
            waits(g, 1);
            due(flag == OPEN ? 1 : 0, () -> g.outer(coin));
        }
    }

    @Sentence(of = "Description, Daemons", says = "One of the kind 1 moves its thing, if that is in a room, through")
    static void eachRemembersItsOwnDirection() {
        Game g = manyRooms(4);
        int coin = object(g, COIN, 1, IN_ROOM, 0);
        int box = holder(g, CONTAINER, BOX, 1, 9);
        g.setFlag(box, FIXED, true);
        g.put(box, IN_ROOM, 0);
        for (int direction = NORTH; direction <= WEST; direction++) {
            g.connect(0, direction, direction, -1);
            g.connect(direction, UP, 0, -1);
        }
        // North leads from room 0 to itself. The first two daemons have the same thing, but not the same direction.
        g.addDaemon(MOVER, coin, 1, false);
        g.addDaemon(MOVER, coin, 1, false);
        g.addDaemon(MOVER, box, 2, false);
        g.begin(0);
        waits(g, 1);
        due(0, () -> g.outer(coin));
        waits(g, 1);
        due(0, () -> g.outer(box));
        due(0, () -> g.outer(coin));
        waits(g, 2);
        due(1, () -> g.outer(box));
        due("200 200 200 200 201 200 200 200 200 201", g::events);
        due(2, () -> g.daemon(2, 4));
    }

    /** Room 0 holds an open box of this capacity, as the thing of this number, and coins of the sizes 3 to 5. */
    private static Game gathering(int boxNumber, int capacity) {
        Game g = rooms(true, true);
        for (int thing = 0; thing < 4; thing++) {
            if (thing == boxNumber) {
                openBox(g, IN_ROOM, 0);
                g.setCapacity(thing, capacity);
            } else {
                object(g, COIN, thing + 3, IN_ROOM, 0);
            }
        }
        g.addDaemon(GATHERER, boxNumber, 1, false);
        return g;
    }

    @Sentence(of = "Description, Daemons", says = "One of the kind 2, whose thing is a container, if that is open and")
    static void theOneThatGathers() {
        // Behind the box 0 there are coins of the sizes 4, 5 and 6.
        for (int capacity = 0; capacity < 16; capacity++) {
            Game g = gathering(0, capacity);
            g.begin(0);
            waits(g, 4);
            due(gathered(new int[] {0, 4, 5, 6}, capacity), g::events);
        }
        for (int capacity = 0; capacity < 16; capacity++) {
            Game g = gathering(2, capacity);
            g.begin(0);
            waits(g, 4);
            due(gathered(new int[] {3, 4, 0, 6}, capacity), g::events);
        }
    }

    /** What is gathered when each turn takes the lowest thing that still fits; a size of 0 is the box itself. */
    private static String gathered(int[] sizes, int capacity) {
        StringBuilder events = new StringBuilder();
        int left = capacity;
        for (int thing = 0; thing < sizes.length; thing++) {
            if (sizes[thing] > 0 && sizes[thing] <= left) {
                left -= sizes[thing];
                events.append(events.length() == 0 ? "30" : " 30").append(thing);
            }
        }
        return events.toString();
    }

    @Sentence(of = "Description, Daemons", says = "One of the kind 2, whose thing is a container, if that is open and")
    static void itGathersOnlyWhatMayBe() {
        Game g = rooms(true, true);
        int door = g.addThing(DOOR, GATE, 0, 1);
        int fixed = object(g, COIN, 1, IN_ROOM, 0);
        int far = object(g, COIN, 1, IN_ROOM, 1);
        int held = object(g, COIN, 1, CARRIED, 0);
        int gone = object(g, COIN, 1, NOWHERE, 0);
        int box = openBox(g, IN_ROOM, 0);
        int bell = holder(g, SUPPORTER, BELL, 1, 9);
        g.put(bell, IN_ROOM, 0);
        int upon = object(g, COIN, 9, UPON, bell);
        g.setFlag(fixed, FIXED, true);
        g.connect(0, NORTH, 1, door);
        g.setCapacity(box, 1);
        g.addDaemon(GATHERER, box, 1, false);
        g.begin(1);
        waits(g, 3);
        due("30" + bell, g::events);
        int[] places = {NOWHERE, IN_ROOM, IN_ROOM, CARRIED, NOWHERE, IN_ROOM, INSIDE, UPON};
        for (int thing = 0; thing < places.length; thing++) {
            final int t = thing;
            due(places[t], () -> g.thing(t, 9));
        }
        due(far, () -> g.content(IN_ROOM, 1, 0));
        due(held, () -> g.content(CARRIED, 0, 0));
        due(gone, () -> g.content(NOWHERE, 0, 1));
        due(0, () -> g.outer(upon));
    }

    @Sentence(of = "Description, Daemons", says = "One of the kind 2, whose thing is a container, if that is open and")
    static void itGathersOnlyWhenOpenAndInARoom() {
        for (int place = IN_ROOM; place <= NOWHERE; place++) {
            for (int flag : new int[] {-1, OPEN, LOCKED, TRANSPARENT}) {
                Game g = rooms(true);
                int bell = holder(g, SUPPORTER, BELL, 1, 9);
                int chest = openBox(g, IN_ROOM, 0);
                g.put(bell, IN_ROOM, 0);
                g.setFlag(bell, FIXED, true);
                g.setFlag(chest, FIXED, true);
                int box = holder(g, CONTAINER, BOOK, 1, 9);
                g.put(box, place, place == IN_ROOM ? 0 : place == INSIDE ? chest : bell);
                if (flag >= 0) {
                    g.setFlag(box, flag, true);
                }
                int coin = object(g, COIN, 1, IN_ROOM, 0);
                g.addDaemon(GATHERER, box, 1, false);
                g.begin(0);
                waits(g, 2);
                boolean gathers = place == IN_ROOM && flag == OPEN;
                due(gathers ? INSIDE : IN_ROOM, () -> g.thing(coin, 9));
                due(gathers ? "30" + coin : "", g::events);
                due(gathers ? 1 : 0, () -> g.daemon(0, 4));
            }
        }
    }

    @Sentence(of = "Description, Daemons", says = "One of the kind 3 lights its lamp, if it is not lit and has fuel,")
    static void theOneThatLights() {
        for (int fuel = 0; fuel <= 3; fuel++) {
            for (boolean isLit : new boolean[] {false, true}) {
                if (fuel == 0 && isLit) {
                    continue;
                }
                Game g = rooms(true);
                int lamp = lamp(g, fuel, isLit, NOWHERE, 0);
                g.addDaemon(SWITCHER, lamp, 1, true);
                g.begin(0);
                waits(g, 1);
                boolean burns = !isLit && fuel > 0;
                int left = burns ? fuel - 1 : fuel;
                due(left, () -> g.thing(lamp, 6));
                due(burns && left > 0 ? flags(LIT) : 0, () -> g.thing(lamp, 8));
                due(-1, () -> g.daemon(0, 3));
                due(fuel == 0 ? "" : isLit ? "500" : left > 0 ? "400" : "400 600", g::events);
                due(fuel == 0 ? 0 : 1, () -> g.daemon(0, 4));
            }
        }
    }

    @Sentence(of = "Description, Events", says = "An event has a kind and a thing: 1, a daemon closed the thing; 2,")
    static void eachEvent() {
        for (int thing : new int[] {0, 9, 10, 15}) {
            String number = thing < 10 ? "0" + thing : "" + thing;
            due("1" + number, () -> oneEvent(CLOSER, CONTAINER, thing, 0).events());
            due("1" + number, () -> oneEvent(CLOSER, DOOR, thing, 0).events());
            due("2" + number, () -> oneEvent(MOVER, OBJECT, thing, 0).events());
            due("4" + number, () -> oneEvent(SWITCHER, LAMP, thing, 0).events());
            due("4" + number + " 6" + number, () -> oneEvent(SWITCHER, LAMP, thing, 1).events());
            due("5" + number, () -> oneEvent(SWITCHER, LAMP, thing, -1).events());
        }
        // Of a thing that is put into a container, the thing is told.
        Game g = oneEvent(GATHERER, CONTAINER, 3, 0);
        due("315", g::events);
    }

    /** Sixteen things, one of which is of a kind for the daemon that acts once; the last one can be gathered. */
    private static Game oneEvent(int daemon, int kind, int number, int fuel) {
        Game g = rooms(true);
        g.connect(0, NORTH, 0, -1);
        for (int thing = 0; thing < 16; thing++) {
            g.addThing(thing == number ? kind : OBJECT, BOX, 0, 1);
        }
        if (kind == CONTAINER || kind == DOOR) {
            g.setFlag(number, OPEN, true);
        }
        if (kind == CONTAINER) {
            g.setCapacity(number, 9);
        }
        if (kind == LAMP) {
            g.setFuel(number, fuel == 0 ? 9 : Math.abs(fuel));
            g.setFlag(number, LIT, fuel < 0);
        }
        if (kind != DOOR) {
            g.put(number, IN_ROOM, 0);
        }
        if (daemon == GATHERER) {
            g.put(15, IN_ROOM, 0);
        }
        g.addDaemon(daemon, number, 1, true);
        g.begin(0);
        waits(g, 2);
        return g;
    }

    @Sentence(of = "Description, Events", says = "The latest 40 events since play began are kept.")
    static void fortyEvents() {
        for (int turns : new int[] {0, 1, 39, 40, 41, 42, 79, 80, 81}) {
            Game g = rooms(true);
            int coin = object(g, COIN, 1, IN_ROOM, 0);
            int lamp = lamp(g, 99, false, NOWHERE, 0);
            g.connect(0, UP, 0, -1);
            g.addDaemon(MOVER, coin, 1, false);
            g.addDaemon(SWITCHER, lamp, 2, true);
            g.begin(0);
            waits(g, turns);
            int events = turns + (turns >= 2 ? 1 : 0);
            int kept = Math.min(40, events);
            due(kept, () -> g.count(8));
            due(INDEX, () -> g.event(kept));
            for (int i = 0; i < kept; i++) {
                final int index = i;
                boolean isThird = events - kept + i == 2;
                due(isThird ? 400 + lamp : 200 + coin, () -> g.event(index));
            }
        }
    }

    @Sentence(of = "Description, Events", says = "The latest 40 events since play began are kept.")
    static void fortyEventsOfManyInATurn() {
        Game g = rooms(true);
        g.connect(0, UP, 0, -1);
        for (int thing = 0; thing < 16; thing++) {
            if (thing < 6) {
                object(g, COIN, 1, IN_ROOM, 0);
                g.addDaemon(MOVER, thing, 1, false);
            } else {
                lamp(g, 7);
            }
        }
        g.begin(0);
        StringBuilder moves = new StringBuilder();
        for (int turn = 1; turn <= 6; turn++) {
            waits(g, 1);
            moves.append(turn == 1 ? "" : " ").append("200 201 202 203 204 205");
            due(moves.toString(), g::events);
        }
        waits(g, 1);
        String burned = " 606 607 608 609 610 611 612 613 614 615";
        String all = moves + " 200 201 202 203 204 205" + burned;
        due(all.substring(all.length() - 40 * 4 + 1), g::events);
        due(7, () -> g.daemon(5, 4));
        due(6, g::undo);
        due(moves.toString(), g::events);
    }

    @Sentence(of = "Description, Events", says = "The latest 40 events since play began are kept.")
    static void eventsSincePlayBegan() {
        Game g = rooms(true);
        int coin = object(g, COIN, 1, IN_ROOM, 0);
        g.connect(0, UP, 0, -1);
        g.addDaemon(MOVER, coin, 1, false);
        g.begin(0);
        waits(g, 41);
        due(40, () -> g.count(8));
        g.stop();
        due(0, () -> g.count(8));
        due(INDEX, () -> g.event(0));
        g.begin(0);
        due(0, () -> g.count(8));
        due(INDEX, () -> g.event(0));
        waits(g, 1);
        due(1, () -> g.count(8));
        due(200, () -> g.event(0));
        due(INDEX, () -> g.event(1));
    }

    private static Game ofTurns(int turns) {
        Game g = oneOfEach();
        g.begin(0);
        waits(g, turns);
        return g;
    }

    @Sentence(of = "Description, Changes", says = "A change is a turn.")
    static void aChangeIsATurn() {
        Game g = ofTurns(0);
        String[] texts = {"look", "wait", "down", "take coin. drop coin. drop coin", "x", "look. wait. look"};
        int[] changes = {0, 1, 1, 3, 3, 4};
        for (int i = 0; i < texts.length; i++) {
            g.say(texts[i]);
            final int want = changes[i];
            due(want, () -> g.count(6));
            due(want, () -> g.count(7));
            due(want, () -> g.count(3));
        }
        due(3, g::undo);
        due(IN_ROOM, () -> g.thing(OBJECT, 9));
        due(2, g::undo);
        due(CARRIED, () -> g.thing(OBJECT, 9));
        due(1, g::undo);
        due(IN_ROOM, () -> g.thing(OBJECT, 9));
    }

    @Sentence(of = "Description, Changes", says = "The world before each of the latest 10 turns is kept and can be")
    static void tenTurns() {
        for (int turns = 0; turns <= 25; turns++) {
            int kept = Math.min(10, turns);
            Game g = ofTurns(turns);
            due(kept, () -> g.count(6));
            for (int left = kept - 1; left >= 0; left--) {
                final int n = left;
                due(n, g::undo);
            }
            due(STATE, g::undo);
            due(turns - kept, () -> g.count(3));
        }
    }

    @Sentence(of = "Description, Changes", says = "The world before each of the latest 10 turns is kept and can be undone;")
    static void whatIsNoTurnCostsNone() {
        String[] others = {"down", "look", "look. down", "x", "take coin. take coin"};
        for (String other : others) {
            Game g = ofTurns(11);
            g.type("wait. wait");
            g.foresee();
            g.isReplayed();
            g.outerLater(OBJECT, 30);
            g.command();
            g.say(other);
            int turns = g.count(3);
            due(10, () -> g.count(6));
            for (int undone = 1; undone <= 10; undone++) {
                final int n = undone;
                due(10 - n, g::undo);
                due(turns - n, () -> g.count(3));
            }
            due(STATE, g::undo);
            due(true, g::isReplayed);
        }
    }

    @Sentence(of = "Description, Changes", says = "The world before each of the latest 10 turns is kept and can be")
    static void theWorldBeforeEach() {
        String[] turns = {"open door", "take coin", "light lamp", "open box", "put coin in box", "north", "wait",
            "south", "take all", "drop bell", "quench lamp", "take coin", "close box", "close door", "drop all"};
        for (int first = 0; first + 10 <= turns.length; first++) {
            Game now = oneOfEach();
            now.begin(0);
            for (int turn = 0; turn < first + 10; turn++) {
                says(now, turns[turn], "done 1");
            }
            for (int turn = first + 9; turn >= first; turn--) {
                Game then = oneOfEach();
                then.begin(0);
                for (int before = 0; before < turn; before++) {
                    then.say(turns[before]);
                }
                now.undo();
                if (turn == first || turn == first + 9) {
                    same("the world before turn " + turn, then.world(), now.world());
                }
            }
            due(STATE, now::undo);
        }
    }

    @Sentence(of = "Description, Changes", says = "The world before each of the latest 10 turns is kept and can be")
    static void whatForgetsThem() {
        Game g = ofTurns(12);
        due(STATE, () -> g.begin(0));
        due(STATE, g::restore);
        due(10, () -> g.count(6));
        due(5, g::save);
        due(10, () -> g.count(6));
        due(5, g::restore);
        due(0, () -> g.count(6));
        due(STATE, g::undo);
        waits(g, 2);
        due(2, () -> g.count(6));
        due(14, g::stop);
        due(0, () -> g.count(6));
        due(STATE, g::undo);
        due(STATE, g::stop);
        g.begin(0);
        due(0, () -> g.count(6));
        due(STATE, g::undo);
        due(0, () -> g.count(3));
    }

    @Sentence(of = "Description, Changes", says = "The text buffer, the fault position and the refusal do not belong")
    static void whatDoesNotBelongToTheWorld() {
        Use[] uses = {Game::undo, Game::save, Game::restore, Game::stop, g -> g.begin(0), Game::save, Game::restore};
        Game g = ofTurns(2);
        g.save();
        g.say("wait. take coin. take coin");
        g.say("looks");
        g.type("take al");
        for (Use use : uses) {
            Check.answer(() -> use.in(g));
            due(7, () -> g.count(5));
            due(4, g::faultPosition);
            due(5, () -> g.refusal(0));
            due(-1, () -> g.refusal(1));
            due(2, () -> g.refusal(2));
        }
        says(g, "l", "done 1");
    }

    @Sentence(of = "Description, Details", says = "Turns that are no longer kept stay so when others are undone.")
    static void turnsNoLongerKept() {
        for (int undone = 1; undone <= 10; undone++) {
            Game g = ofTurns(13);
            for (int i = 1; i <= undone; i++) {
                final int left = 10 - i;
                due(left, g::undo);
            }
            final int left = 10 - undone;
            due(left, () -> g.count(6));
            waits(g, 3);
            final int kept = Math.min(10, left + 3);
            due(kept, () -> g.count(6));
            for (int i = kept - 1; i >= 0; i--) {
                final int n = i;
                due(n, g::undo);
            }
            due(STATE, g::undo);
            final int clock = 13 - undone + 3 - kept;
            due(clock, () -> g.count(3));
        }
    }

    @Sentence(of = "Description, Details", says = "A daemon whose time has come acts also if there is nothing for it")
    static void daemonsWithNothingToDo() {
        for (boolean once : new boolean[] {false, true}) {
            Game g = rooms(true);
            int box = holder(g, CONTAINER, BOX, 1, 9);
            g.put(box, IN_ROOM, 0);
            int lamp = lamp(g, 0, false, IN_ROOM, 0);
            g.addDaemon(CLOSER, box, 1, once);
            g.addDaemon(MOVER, box, 2, once);
            g.addDaemon(GATHERER, box, 3, once);
            g.addDaemon(SWITCHER, lamp, 4, once);
            g.begin(0);
            waits(g, 4);
            int[] times = {5, 6, 6, 8};
            for (int daemon = 0; daemon < 4; daemon++) {
                final int d = daemon;
                due(once ? -1 : times[d], () -> g.daemon(d, 3));
                due(0, () -> g.daemon(d, 4));
            }
            due(0, () -> g.count(8));
            says(g, "open box", "done 1");
            due(once ? flags(OPEN) : 0, () -> g.thing(box, 8));
        }
    }

    @Sentence(of = "Description, Details", says = "Moving through an exit to the same room is a move.")
    static void movingToTheSameRoom() {
        Game g = rooms(true, true);
        int coin = object(g, COIN, 1, IN_ROOM, 0);
        g.connect(0, SOUTH, 0, -1);
        g.connect(0, WEST, 1, -1);
        g.addDaemon(MOVER, coin, 2, false);
        g.begin(0);
        says(g, "south", "done 1");
        due(0, () -> g.count(4));
        due(1, () -> g.count(3));
        due(1, () -> g.count(6));
        says(g, "go south", "done 1");
        due("200", g::events);
        due(0, () -> g.outer(coin));
        due(1, () -> g.daemon(0, 4));
        says(g, "south. south", "done 2");
        // The direction goes on behind the one to the same room.
        due(1, () -> g.outer(coin));
        due("200 200", g::events);
    }

    @Sentence(of = "Description, Details", says = "A lamp that is lit in a turn burns in this turn already.")
    static void litAndBurning() {
        Game g = rooms(true);
        int lamp = lamp(g, 2, false, IN_ROOM, 0);
        g.begin(0);
        says(g, "light lamp", "done 1");
        due(1, () -> g.thing(lamp, 6));
        due(flags(LIT), () -> g.thing(lamp, 8));
        says(g, "quench lamp", "done 1");
        due(1, () -> g.thing(lamp, 6));
        says(g, "light lamp", "done 1");
        due(0, () -> g.thing(lamp, 6));
        due(0, () -> g.thing(lamp, 8));
        due("600", g::events);
        says(g, "light lamp", "done 0, 11 0 0");
    }

    @Sentence(of = "Promise 20: undo", says = "Undoes the latest turn that is kept.")
    static void undoesTheLatestTurn() {
        Game g = rooms(true, true);
        int box = openBox(g, IN_ROOM, 0);
        int coin = object(g, COIN, 1, IN_ROOM, 0);
        int lamp = lamp(g, 1, false, IN_ROOM, 0);
        g.connect(0, UP, 1, -1);
        g.addDaemon(MOVER, coin, 1, true);
        g.addDaemon(CLOSER, box, 2, false);
        g.begin(0);
        List<Object> first = g.world();
        g.say("light lamp");
        List<Object> second = g.world();
        g.say("wait. down");
        due(1, g::undo);
        same("the world", second, g.world());
        due(0, g::undo);
        same("the world", first, g.world());
        due(1, () -> g.thing(lamp, 6));
        says(g, "take coin. wait", "done 2");
        due(-1, () -> g.outer(coin));
        due("100", g::events);
    }

    @Sentence(of = "Promise 20: undo", says = "Returns the number of turns that can still be undone.")
    static void howManyCanStillBeUndone() {
        due(0, () -> ofTurns(1).undo());
        due(1, () -> ofTurns(2).undo());
        due(8, () -> ofTurns(9).undo());
        due(9, () -> ofTurns(10).undo());
        due(9, () -> ofTurns(11).undo());
        due(9, () -> ofTurns(100).undo());
    }

    @Sentence(of = "Promise 20: undo", says = "Throws `IllegalStateException` if no turn is kept")
    static void nothingToUndo() {
        refused(STATE, Game::new, Game::undo);
        refused(STATE, Edges::made, Game::undo);
        refused(STATE, () -> ofTurns(0), Game::undo);
        refused(STATE, () -> {
            Game g = ofTurns(1);
            g.undo();
            return g;
        }, Game::undo);
        refused(STATE, () -> {
            Game g = ofTurns(0);
            g.say("look. take rope");
            return g;
        }, Game::undo);
        refused(STATE, () -> {
            Game g = ofTurns(3);
            g.stop();
            return g;
        }, Game::undo);
    }

    @Sentence(of = "Promise 21: isReplayed", says = "Carries out all commands that were carried out since play began")
    static void carriesOutAllOnceMore() {
        Game touched = played();
        Game untouched = played();
        due(true, touched::isReplayed);
        due(true, touched::isReplayed);
        same("all", untouched.picture(), touched.picture());
        due(untouched.undo(), touched::undo);
        due(untouched.restore(), touched::restore);
        same("all", untouched.picture(), touched.picture());
        Game g = oneOfEach();
        g.begin(0);
        g.say("light lamp. look. open door. north. look. drop all");
        due(true, g::isReplayed);
        g.undo();
        g.undo();
        due(true, g::isReplayed);
        g.say("take all. down");
        due(true, g::isReplayed);
        g.stop();
        g.begin(1);
        due(true, g::isReplayed);
        g.say("south. take all. x");
        due(true, g::isReplayed);
    }

    @Sentence(of = "Promise 21: isReplayed", says = "Returns whether the result is the same as the present world in")
    static void thisIsAlwaysSo() {
        Game g = oneOfEach();
        g.setFlag(DOOR, OPEN, true);
        g.addDaemon(MOVER, CONTAINER, 1, false);
        g.addDaemon(CLOSER, DOOR, 2, true);
        g.addDaemon(GATHERER, CONTAINER, 3, false);
        g.addDaemon(SWITCHER, LAMP, 3, false);
        g.begin(0);
        due(true, g::isReplayed);
        String[] texts = {"take coin. open box", "open door. take all. north", "drop all. south. wait",
            "look. wait. go up",
            "put coin in box. put lamp on bell", "x", "open box. put bell in box", "light lamp. close box. close door"};
        for (int i = 0; i < 24; i++) {
            g.say(texts[i % 8]);
            due(true, g::isReplayed);
            if (i % 5 == 4) {
                Check.answer(g::undo);
                due(true, g::isReplayed);
            }
            if (i == 10) {
                g.save();
            }
            if (i == 18) {
                g.restore();
                due(true, g::isReplayed);
            }
        }
    }

    @Sentence(of = "Promise 21: isReplayed", says = "Throws `IllegalStateException` if the world is not played")
    static void isReplayedWhileNotPlayed() {
        refused(STATE, Game::new, Game::isReplayed);
        refused(STATE, Edges::made, Game::isReplayed);
        refused(STATE, () -> {
            Game g = ofTurns(3);
            g.stop();
            return g;
        }, Game::isReplayed);
    }

    @Sentence(of = "Promise 34: daemon", says = "Returns a number of a daemon.")
    static void aNumberOfADaemon() {
        Game g = oneOfEach();
        g.addDaemon(SWITCHER, LAMP, 20, true);
        int[][] want = {{MOVER, OBJECT, 2, -1, 0, 0}, {SWITCHER, LAMP, 20, -1, 0, 1}};
        dueDaemons(g, want);
        g.begin(0);
        want[0][3] = 2;
        want[1][3] = 20;
        dueDaemons(g, want);
        says(g, "open door. wait", "done 2");
        want[0][3] = 4;
        want[0][4] = 1;
        dueDaemons(g, want);
        g.stop();
        want[0] = new int[] {MOVER, OBJECT, 2, -1, 0, 0};
        want[1][3] = -1;
        dueDaemons(g, want);
    }

    @Sentence(of = "Promise 34: daemon", says = "- `what`: 0 for its kind, 1 for its thing, 2 for its period, 3 for its")
    static void eventsThatEachKindCauses() {
        Game g = rooms(true, true);
        int box = openBox(g, IN_ROOM, 1);
        int coin = object(g, COIN, 1, IN_ROOM, 1);
        int ball = object(g, ROPE, 1, IN_ROOM, 0);
        int held = object(g, KEY, 1, CARRIED, 0);
        int lamp = lamp(g, 2, false, NOWHERE, 0);
        g.connect(0, UP, 0, -1);
        g.addDaemon(GATHERER, box, 1, false);
        g.addDaemon(CLOSER, box, 2, false);
        g.addDaemon(MOVER, ball, 1, false);
        g.addDaemon(MOVER, held, 1, false);
        g.addDaemon(MOVER, coin, 1, false);
        g.addDaemon(SWITCHER, lamp, 1, false);
        g.begin(0);
        waits(g, 4);
        due("301 202 404 100 202 504 202 404 604 202", g::events);
        // The lamp has no fuel any more in turn 4; the coin was in the box before it could be moved.
        int[] caused = {1, 1, 4, 0, 0, 3};
        for (int daemon = 0; daemon < 6; daemon++) {
            final int d = daemon;
            due(caused[d], () -> g.daemon(d, 4));
        }
    }

    private static void dueDaemons(Game g, int[][] want) {
        for (int daemon = 0; daemon < want.length; daemon++) {
            for (int what = 0; what < 6; what++) {
                final int d = daemon;
                final int n = what;
                due(want[d][n], () -> g.daemon(d, n));
            }
        }
    }

    @Sentence(of = "Promise 34: daemon", says = "- `what`: 0 for its kind, 1 for its thing, 2 for its period, 3 for")
    static void whatOfADaemon() {
        Game g = rooms(true);
        int lamp = lamp(g, 2, false, NOWHERE, 0);
        int box = openBox(g, NOWHERE, 0);
        g.addDaemon(SWITCHER, lamp, 1, false);
        g.addDaemon(CLOSER, box, 1, true);
        g.addDaemon(CLOSER, box, 2, true);
        g.begin(0);
        // That the lamp burns down is no event that a daemon has caused.
        int[] caused = {1, 2, 3, 3};
        for (int turn = 0; turn < 4; turn++) {
            final int t = turn;
            waits(g, 1);
            dueDaemons(g, new int[][] {{SWITCHER, lamp, 1, t + 2, caused[t], 0}, {CLOSER, box, 1, -1, 1, 1},
                {CLOSER, box, 2, t == 0 ? 2 : -1, 0, 1}});
        }
        due("400 101 500 400 600", g::events);
        g.stop();
        int[][] want = {{SWITCHER, lamp, 1, -1, 0, 0}, {CLOSER, box, 1, -1, 0, 1}, {CLOSER, box, 2, -1, 0, 1}};
        dueDaemons(g, want);
    }

    @Sentence(of = "Promise 34: daemon", says = "- `what`: 0 for its kind, 1 for its thing, 2 for its period, 3 for")
    static void moreEventsThanAreKept() {
        Game g = rooms(true);
        int coin = object(g, COIN, 1, IN_ROOM, 0);
        g.connect(0, UP, 0, -1);
        g.addDaemon(MOVER, coin, 1, false);
        g.begin(0);
        waits(g, 130);
        due(130, () -> g.daemon(0, 4));
        due(131, () -> g.daemon(0, 3));
        due(40, () -> g.count(8));
        g.undo();
        due(129, () -> g.daemon(0, 4));
        due(130, () -> g.daemon(0, 3));
    }

    @Sentence(of = "Promise 34: daemon", says = "Throws `IndexOutOfBoundsException` if there is no such daemon")
    static void noSuchDaemon() {
        refusedBeside(0, 0, INDEX, Edges::made, (g, wrong) -> g.daemon(wrong, 0));
        refusedBeside(0, 0, INDEX, Edges::played, (g, wrong) -> g.daemon(wrong, 6));
        refused(INDEX, Game::new, g -> g.daemon(0, 0));
        refused(INDEX, Game::new, g -> g.daemon(-1, -1));
    }

    @Sentence(of = "Promise 34: daemon", says = "Throws `IllegalArgumentException` if what is not from 0 to 5")
    static void noSuchNumberOfADaemon() {
        refusedBeside(0, 5, ARGUMENT, Edges::made, (g, wrong) -> g.daemon(0, wrong));
        refusedBeside(0, 5, ARGUMENT, Edges::played, (g, wrong) -> g.daemon(0, wrong));
        due(MOVER, () -> made().daemon(0, 0));
        due(0, () -> made().daemon(0, 5));
    }

    @Sentence(of = "Promise 35: event", says = "- `index`: the index among those that are kept, from 0 for the")
    static void theEarliestEvent() {
        Game g = rooms(true);
        int first = lamp(g, 1);
        int second = lamp(g, 2);
        int coin = object(g, COIN, 1, IN_ROOM, 0);
        g.connect(0, UP, 0, -1);
        g.addDaemon(MOVER, coin, 3, false);
        g.begin(0);
        waits(g, 3);
        due(600 + first, () -> g.event(0));
        due(600 + second, () -> g.event(1));
        due(200 + coin, () -> g.event(2));
        waits(g, 3 * 37);
        due(40, () -> g.count(8));
        due(600 + first, () -> g.event(0));
        waits(g, 3);
        due(600 + second, () -> g.event(0));
        due(200 + coin, () -> g.event(39));
    }

    @Sentence(of = "Promise 35: event", says = "Returns 100 times its kind plus its thing.")
    static void theNumberOfAnEvent() {
        due(100, () -> oneEvent(CLOSER, CONTAINER, 0, 0).event(0));
        due(115, () -> oneEvent(CLOSER, DOOR, 15, 0).event(0));
        due(200, () -> oneEvent(MOVER, OBJECT, 0, 0).event(0));
        due(315, () -> oneEvent(GATHERER, CONTAINER, 0, 0).event(0));
        due(415, () -> oneEvent(SWITCHER, LAMP, 15, 0).event(0));
        due(500, () -> oneEvent(SWITCHER, LAMP, 0, -9).event(0));
        due(615, () -> oneEvent(SWITCHER, LAMP, 15, 1).event(1));
    }

    @Sentence(of = "Promise 35: event", says = "Throws `IndexOutOfBoundsException` if there is no such event")
    static void noSuchEvent() {
        refused(INDEX, Edges::made, g -> g.event(0));
        refusedBeside(0, 1, INDEX, () -> {
            Game g = ofTurns(0);
            g.say("open door. wait. wait. wait");
            g.say("wait");
            return g;
        }, Game::event);
        refusedBeside(0, 39, INDEX, () -> {
            Game g = rooms(true);
            object(g, COIN, 1, IN_ROOM, 0);
            g.connect(0, UP, 0, -1);
            g.addDaemon(MOVER, 0, 1, false);
            g.begin(0);
            waits(g, 45);
            return g;
        }, Game::event);
    }

    /** Things that move about: a box that gathers, a coin, and a bell with a key on it; a rope is carried. */
    private static Game movingAbout() {
        Game g = rooms(true, true, true);
        int box = openBox(g, IN_ROOM, 0);
        int coin = object(g, COIN, 1, IN_ROOM, 1);
        int bell = holder(g, SUPPORTER, BELL, 1, 9);
        g.put(bell, IN_ROOM, 2);
        object(g, KEY, 1, UPON, bell);
        object(g, ROPE, 1, CARRIED, 0);
        int door = g.addThing(DOOR, GATE, 0, 1);
        g.setFlag(door, OPEN, true);
        g.connect(0, NORTH, 1, -1);
        g.connect(1, EAST, 2, door);
        g.connect(1, WEST, 0, -1);
        g.connect(2, UP, 0, -1);
        g.connect(2, DOWN, 2, -1);
        g.addDaemon(MOVER, box, 2, false);
        g.addDaemon(MOVER, coin, 3, false);
        g.addDaemon(MOVER, bell, 1, false);
        g.addDaemon(GATHERER, box, 7, false);
        g.addDaemon(CLOSER, door, 11, true);
        g.begin(0);
        return g;
    }

    @Sentence(of = "Promise 36: outerLater", says = "Returns what the outer place of a thing would be after some")
    static void afterSomeTurns() {
        for (int turns = 0; turns <= 30; turns++) {
            final int n = turns;
            Game now = movingAbout();
            Game later = movingAbout();
            waits(later, n);
            for (int thing = 0; thing < 6; thing++) {
                final int t = thing;
                due(later.outer(t), () -> now.outerLater(t, n));
            }
        }
        Game g = movingAbout();
        waits(g, 13);
        List<Integer> foreseen = new ArrayList<>();
        for (int thing = 0; thing < 6; thing++) {
            foreseen.add(g.outerLater(thing, 30));
        }
        waits(g, 30);
        for (int thing = 0; thing < 6; thing++) {
            final int t = thing;
            due(foreseen.get(t), () -> g.outer(t));
        }
    }

    @Sentence(of = "Promise 36: outerLater", says = "The world stays as it is.")
    static void theWorldStays() {
        Game touched = movingAbout();
        Game untouched = movingAbout();
        waits(touched, 3);
        waits(untouched, 3);
        for (int thing = 0; thing < 6; thing++) {
            touched.outerLater(thing, 30);
            touched.outerLater(thing, 1);
        }
        same("all", untouched.picture(), touched.picture());
        due(true, touched::isReplayed);
        due(untouched.undo(), touched::undo);
        waits(touched, 9);
        waits(untouched, 9);
        same("all", untouched.picture(), touched.picture());
    }

    @Sentence(of = "Promise 36: outerLater", says = "- `turns`: the number of turns, 0 to 30")
    static void noTurnsAndThirty() {
        Game g = movingAbout();
        for (int thing = 0; thing < 6; thing++) {
            final int t = thing;
            due(g.outer(t), () -> g.outerLater(t, 0));
        }
        Game circle = manyRooms(8);
        int coin = object(circle, COIN, 1, IN_ROOM, 0);
        for (int room = 0; room < 8; room++) {
            circle.connect(room, NORTH, (room + 1) % 8, -1);
        }
        circle.addDaemon(MOVER, coin, 1, false);
        circle.begin(0);
        due(0, () -> circle.outerLater(coin, 0));
        due(1, () -> circle.outerLater(coin, 1));
        due(29 % 8, () -> circle.outerLater(coin, 29));
        due(30 % 8, () -> circle.outerLater(coin, 30));
        due(ARGUMENT, () -> circle.outerLater(coin, 31));
        due(ARGUMENT, () -> circle.outerLater(coin, -1));
    }

    @Sentence(of = "Promise 36: outerLater", says = "Returns the place as for outer.")
    static void thePlaceAsForOuter() {
        Game g = movingAbout();
        due(-1, () -> g.outerLater(4, 0));
        due(-1, () -> g.outerLater(4, 30));
        due(-2, () -> g.outerLater(5, 0));
        due(-2, () -> g.outerLater(5, 30));
        due(2, () -> g.outerLater(3, 0));
        due(0, () -> g.outerLater(3, 1));
    }

    @Sentence(of = "Promise 36: outerLater", says = "Throws `IndexOutOfBoundsException` if there is no such thing")
    static void outerLaterOfNoThing() {
        refusedBeside(0, DOOR, INDEX, Edges::played, (g, wrong) -> g.outerLater(wrong, 1));
        refusedBeside(0, DOOR, INDEX, Edges::made, (g, wrong) -> g.outerLater(wrong, 31));
        refused(INDEX, Game::new, g -> g.outerLater(0, 0));
    }

    @Sentence(of = "Promise 36: outerLater", says = "Throws `IllegalArgumentException` if turns is out of range")
    static void outerLaterOutOfRange() {
        refusedBeside(0, 30, ARGUMENT, Edges::played, (g, wrong) -> g.outerLater(OBJECT, wrong));
        refusedBeside(0, 30, ARGUMENT, Edges::made, (g, wrong) -> g.outerLater(OBJECT, wrong));
    }

    @Sentence(of = "Promise 36: outerLater", says = "Throws `IllegalStateException` if the world is not played")
    static void outerLaterWhileNotPlayed() {
        refused(STATE, Edges::made, g -> g.outerLater(OBJECT, 0));
        refused(STATE, Edges::made, g -> g.outerLater(DOOR, 30));
    }
}
