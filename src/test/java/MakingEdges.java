import java.util.List;

/** Promises 1 to 13: a new object, and how a world is made and play begins and ends. */
final class MakingEdges extends Edges {
    @Sentence(of = "Promise 1: A new object", says = "Creates a world without rooms and things that is not played.")
    static void aNewWorld() {
        counts(new Game(), 0, 0, 0, -1, -1, 0, 0, 0, 0, 0);
        Use[] all = {g -> g.stop(), g -> g.command(), g -> g.foresee(), g -> g.matching(), g -> g.undo(),
            g -> g.isReplayed(), g -> g.restore()};
        for (Use use : all) {
            refused(STATE, Game::new, use);
        }
        Use[] none = {g -> g.begin(0), g -> g.connect(0, NORTH, 0, -1), g -> g.connect(0, NORTH, -1, 0),
            g -> g.setCapacity(0, 0), g -> g.setFlag(0, FIXED, true), g -> g.setKey(0, -1), g -> g.setFuel(0, 0),
            g -> g.setWorth(0, 0), g -> g.put(0, NOWHERE, 0), g -> g.addDaemon(MOVER, 0, 1, true), g -> g.thing(0, 0),
            g -> g.exit(0, NORTH), g -> g.door(0, NORTH), g -> g.isLit(0), g -> g.isVisible(0), g -> g.isReachable(0),
            g -> g.outer(0), g -> g.distance(0, 0), g -> g.worth(0), g -> g.daemon(0, 0), g -> g.event(0),
            g -> g.outerLater(0, 0), g -> g.content(CARRIED, 0, 0), g -> g.content(NOWHERE, 0, 0)};
        for (Use use : none) {
            refused(INDEX, Game::new, use);
        }
        Game g = new Game();
        due(-1, g::faultPosition);
        due(0, () -> g.refusal(0));
        due(-1, () -> g.refusal(1));
        due(-1, () -> g.refusal(2));
        due(0, () -> g.worth(-1));
        due(0, () -> g.content(CARRIED, 0, -1));
        due(0, () -> g.content(NOWHERE, 0, -1));
        due(0, g::save);
    }

    @Sentence(of = "Promise 2: addRoom", says = "Adds a room without exits.")
    static void aRoomWithoutExits() {
        Game g = new Game();
        for (int room = 0; room < 8; room++) {
            final int r = room;
            g.addRoom(true);
            for (int direction = NORTH; direction <= DOWN; direction++) {
                final int d = direction;
                due(MISSING, () -> g.exit(r, d));
                due(MISSING, () -> g.door(r, d));
            }
            // What a later room finds in its place must not be what an earlier one left there.
            g.connect(r, r % 6, 0, -1);
        }
        Game again = new Game();
        again.save();
        again.addRoom(true);
        again.connect(0, EAST, 0, -1);
        again.restore();
        again.addRoom(false);
        due(MISSING, () -> again.exit(0, EAST));
        due(false, () -> again.isLit(0));
    }

    @Sentence(of = "Promise 2: addRoom", says = "- `isLight`: whether it is light")
    static void aLightRoomAndADarkOne() {
        due(true, () -> rooms(true).isLit(0));
        due(false, () -> rooms(false).isLit(0));
        Game g = manyRooms(7);
        g.addRoom(true);
        due(false, () -> g.isLit(6));
        due(true, () -> g.isLit(7));
    }

    @Sentence(of = "Promise 2: addRoom", says = "Returns the number of the room.")
    static void theNumberOfTheRoom() {
        Game g = new Game();
        for (int room = 0; room < 8; room++) {
            final int r = room;
            due(r, () -> g.addRoom(false));
        }
    }

    @Sentence(of = "Promise 2: addRoom", says = "Throws `IllegalStateException` if the world is played, or there are")
    static void noNinthRoom() {
        due(7, () -> manyRooms(7).addRoom(true));
        refused(STATE, () -> manyRooms(8), g -> g.addRoom(true));
        refused(STATE, () -> manyRooms(8), g -> g.addRoom(false));
        refused(STATE, Edges::played, g -> g.addRoom(true));
    }

    @Sentence(of = "Promise 3: connect", says = "Sets or removes the exit of a room in a direction.")
    static void everyExit() {
        Game g = manyRooms(8);
        for (int exit = 0; exit < 48; exit++) {
            final int e = exit;
            due(-1, () -> g.connect(e / 6, e % 6, e % 8, -1));
        }
        for (int exit = 0; exit < 48; exit++) {
            final int e = exit;
            due(e % 8, () -> g.exit(e / 6, e % 6));
        }
        for (int exit = 0; exit < 48; exit++) {
            final int e = exit;
            due(e % 8, () -> g.connect(e / 6, e % 6, -1, -1));
            due(MISSING, () -> g.exit(e / 6, e % 6));
            if (e < 47) {
                due((e + 1) % 8, () -> g.exit((e + 1) / 6, (e + 1) % 6));
            }
        }
    }

    @Sentence(of = "Promise 3: connect", says = "- `to`: the room to which the exit leads, or -1 for no exit")
    static void noExit() {
        Game g = oneOfEach();
        due(1, () -> g.connect(0, NORTH, -1, -1));
        due(MISSING, () -> g.exit(0, NORTH));
        due(MISSING, () -> g.door(0, NORTH));
        due(-1, () -> g.connect(0, NORTH, -1, -1));
        due(-1, () -> g.connect(0, NORTH, 0, -1));
        due(0, () -> g.exit(0, NORTH));
        due(0, () -> g.connect(0, NORTH, 1, -1));
        due(1, () -> g.exit(0, NORTH));
    }

    @Sentence(of = "Promise 3: connect", says = "- `door`: the door, or -1 for none")
    static void noDoor() {
        Game g = oneOfEach();
        due(DOOR, () -> g.door(0, NORTH));
        g.connect(0, NORTH, 1, -1);
        due(-1, () -> g.door(0, NORTH));
        Game doors = rooms(true);
        for (int door = 0; door < 16; door++) {
            final int d = door;
            doors.addThing(DOOR, GATE, 0, 1);
            doors.connect(0, UP, 0, d);
            due(d, () -> doors.door(0, UP));
        }
    }

    @Sentence(of = "Promise 3: connect", says = "Returns the room to which the exit led before, or -1.")
    static void whereTheExitLedBefore() {
        Game g = manyRooms(8);
        due(-1, () -> g.connect(7, DOWN, 0, -1));
        due(0, () -> g.connect(7, DOWN, 7, -1));
        due(7, () -> g.connect(7, DOWN, 7, -1));
        due(7, () -> g.connect(7, DOWN, -1, -1));
        due(-1, () -> g.connect(7, DOWN, -1, -1));
    }

    @Sentence(of = "Promise 3: connect", says = "Throws `IndexOutOfBoundsException` if there is no such room, to is")
    static void connectNoSuchRoomOrThing() {
        refusedBeside(0, 1, INDEX, Edges::made, (g, wrong) -> g.connect(wrong, NORTH, 0, -1));
        refusedBeside(-1, 1, INDEX, Edges::made, (g, wrong) -> g.connect(0, NORTH, wrong, -1));
        refusedBeside(-1, DOOR, INDEX, Edges::made, (g, wrong) -> g.connect(0, NORTH, 0, wrong));
        refused(INDEX, () -> manyRooms(8), g -> g.connect(8, NORTH, 0, -1));
        refused(INDEX, () -> manyRooms(8), g -> g.connect(0, NORTH, 8, -1));
        refused(INDEX, () -> manyRooms(8), g -> g.connect(0, NORTH, 0, 0));
        due(1, () -> made().connect(0, NORTH, 1, DOOR));
        due(0, () -> made().connect(1, SOUTH, -1, -1));
    }

    @Sentence(of = "Promise 3: connect", says = "Throws `IndexOutOfBoundsException` if there is no such room, to is")
    static void connectIndexGoesFirst() {
        refused(INDEX, Edges::played, g -> g.connect(2, 6, 0, OBJECT));
        refused(INDEX, Edges::played, g -> g.connect(0, 6, 2, OBJECT));
        refused(INDEX, Edges::played, g -> g.connect(0, 6, -2, DOOR));
        refused(INDEX, Edges::played, g -> g.connect(0, -1, -1, 5));
        refused(INDEX, Edges::played, g -> g.connect(0, NORTH, 0, -2));
    }

    @Sentence(of = "Promise 3: connect", says = "Throws `IllegalArgumentException` if the direction is not from 0 to 5")
    static void connectWrongDirectionOrDoor() {
        refusedBeside(NORTH, DOWN, ARGUMENT, Edges::made, (g, wrong) -> g.connect(0, wrong, 0, -1));
        for (int thing = OBJECT; thing <= LAMP; thing++) {
            final int t = thing;
            refused(ARGUMENT, Edges::made, g -> g.connect(0, NORTH, 0, t));
            refused(ARGUMENT, Edges::made, g -> g.connect(0, NORTH, -1, t));
        }
        refused(ARGUMENT, Edges::made, g -> g.connect(0, NORTH, -1, DOOR));
        refused(ARGUMENT, Edges::played, g -> g.connect(0, NORTH, -1, DOOR));
        refused(ARGUMENT, Edges::played, g -> g.connect(0, 6, 0, -1));
        refused(ARGUMENT, Edges::played, g -> g.connect(0, NORTH, 0, OBJECT));
        for (int direction = NORTH; direction <= DOWN; direction++) {
            final int d = direction;
            due(d == NORTH ? 1 : -1, () -> made().connect(0, d, 0, DOOR));
        }
    }

    @Sentence(of = "Promise 3: connect", says = "Throws `IllegalStateException` if the world is played")
    static void connectWhilePlayed() {
        refused(STATE, Edges::played, g -> g.connect(0, NORTH, 0, -1));
        refused(STATE, Edges::played, g -> g.connect(0, NORTH, -1, -1));
        refused(STATE, Edges::played, g -> g.connect(0, NORTH, 1, DOOR));
    }

    @Sentence(of = "Promise 4: addThing", says = "Adds a thing, which is nowhere.")
    static void aThingIsNowhere() {
        Game g = rooms(true);
        for (int thing = 0; thing < 16; thing++) {
            final int t = thing;
            g.addThing(t % 5, t % 8, t % 4, t % 9 + 1);
            int[] want = {t % 5, t % 8, t % 4, t % 9 + 1, 0, 0, 0, -1, 0, NOWHERE, -1, 0};
            for (int what = 0; what < want.length; what++) {
                final int n = what;
                due(want[n], () -> g.thing(t, n));
            }
            due(-2, () -> g.outer(t));
            due(t + 1, () -> g.content(NOWHERE, 0, -1));
        }
    }

    @Sentence(of = "Promise 4: addThing", says = "Adds a thing, which is nowhere.")
    static void aThingIsNewAlsoBehindARestore() {
        Game g = rooms(true);
        g.save();
        int box = g.addThing(CONTAINER, BOX, RED, 9);
        g.setCapacity(box, 30);
        g.setWorth(box, 9);
        g.setKey(box, box);
        g.setFlag(box, OPEN, true);
        g.put(box, CARRIED, 0);
        g.restore();
        due(0, () -> g.addThing(CONTAINER, BOX, 0, 1));
        int[] want = {CONTAINER, BOX, 0, 1, 0, 0, 0, -1, 0, NOWHERE, -1, 0};
        for (int what = 0; what < want.length; what++) {
            final int n = what;
            due(want[n], () -> g.thing(0, n));
        }
        Game lamps = rooms(true);
        lamps.save();
        lamp(lamps, 99, true, IN_ROOM, 0);
        lamps.restore();
        lamps.addThing(LAMP, LIGHT, 0, 1);
        due(0, () -> lamps.thing(0, 6));
        due(0, () -> lamps.thing(0, 8));
    }

    @Sentence(of = "Promise 4: addThing", says = "- `adjective`: the adjective, or 0")
    static void theAdjectiveOrNone() {
        for (int adjective = 0; adjective <= BIG; adjective++) {
            final int a = adjective;
            Game g = rooms(true);
            g.addThing(OBJECT, BOX, a, 1);
            due(a, () -> g.thing(0, 2));
        }
        refused(ARGUMENT, Edges::made, g -> g.addThing(OBJECT, BOX, -1, 1));
        refused(ARGUMENT, Edges::made, g -> g.addThing(OBJECT, BOX, 4, 1));
    }

    @Sentence(of = "Promise 4: addThing", says = "Returns the number of the thing.")
    static void theNumberOfTheThing() {
        Game g = new Game();
        for (int thing = 0; thing < 16; thing++) {
            final int t = thing;
            due(t, () -> g.addThing(OBJECT, BOX, 0, 1));
        }
    }

    @Sentence(of = "Promise 4: addThing", says = "Throws `IllegalArgumentException` if an argument is out of range")
    static void addThingOutOfRange() {
        refusedBeside(OBJECT, DOOR, ARGUMENT, Edges::made, (g, wrong) -> g.addThing(wrong, BOX, 0, 1));
        refusedBeside(BOX, BELL, ARGUMENT, Edges::made, (g, wrong) -> g.addThing(OBJECT, wrong, 0, 1));
        refusedBeside(0, BIG, ARGUMENT, Edges::made, (g, wrong) -> g.addThing(OBJECT, BOX, wrong, 1));
        refusedBeside(1, 9, ARGUMENT, Edges::made, (g, wrong) -> g.addThing(OBJECT, BOX, 0, wrong));
        due(5, () -> made().addThing(OBJECT, BOX, 0, 1));
        due(5, () -> made().addThing(DOOR, BELL, BIG, 9));
        refused(ARGUMENT, Edges::played, g -> g.addThing(5, BOX, 0, 1));
        refused(ARGUMENT, Edges::played, g -> g.addThing(OBJECT, 8, 0, 1));
        refused(ARGUMENT, Edges::played, g -> g.addThing(OBJECT, BOX, 4, 1));
        refused(ARGUMENT, Edges::played, g -> g.addThing(OBJECT, BOX, 0, 10));
        refused(ARGUMENT, () -> things(16), g -> g.addThing(OBJECT, BOX, 0, 0));
    }

    private static Game things(int things) {
        Game g = rooms(true);
        for (int thing = 0; thing < things; thing++) {
            g.addThing(CONTAINER, BOX, 0, 1);
        }
        return g;
    }

    @Sentence(of = "Promise 4: addThing", says = "Throws `IllegalStateException` if the world is played, or there are")
    static void noSeventeenthThing() {
        due(15, () -> things(15).addThing(OBJECT, BOX, 0, 1));
        refused(STATE, () -> things(16), g -> g.addThing(OBJECT, BOX, 0, 1));
        refused(STATE, Edges::played, g -> g.addThing(OBJECT, BOX, 0, 1));
    }

    @Sentence(of = "Promise 5: setCapacity", says = "Sets the capacity of a container or supporter.")
    static void setsTheCapacity() {
        Game g = oneOfEach();
        g.setCapacity(CONTAINER, 30);
        g.setCapacity(SUPPORTER, 0);
        due(30, () -> g.thing(CONTAINER, 4));
        due(0, () -> g.thing(SUPPORTER, 4));
        due(STATE, () -> g.put(OBJECT, UPON, SUPPORTER));
        due(IN_ROOM, () -> g.put(OBJECT, INSIDE, CONTAINER));
        g.setCapacity(SUPPORTER, 1);
        due(INSIDE, () -> g.put(OBJECT, UPON, SUPPORTER));
    }

    @Sentence(of = "Promise 5: setCapacity", says = "Returns the capacity before.")
    static void theCapacityBefore() {
        Game g = rooms(true);
        g.addThing(CONTAINER, BOX, 0, 1);
        due(0, () -> g.setCapacity(0, 30));
        due(30, () -> g.setCapacity(0, 30));
        due(30, () -> g.setCapacity(0, 0));
        due(0, () -> g.setCapacity(0, 1));
    }

    @Sentence(of = "Promise 5: setCapacity", says = "Throws `IndexOutOfBoundsException` if there is no such thing")
    static void setCapacityNoSuchThing() {
        refusedBeside(0, DOOR, INDEX, Edges::made, (g, wrong) -> g.setCapacity(wrong, 9));
        refused(INDEX, () -> things(16), g -> g.setCapacity(16, 9));
        due(0, () -> things(16).setCapacity(15, 9));
        refused(INDEX, Edges::played, g -> g.setCapacity(-1, -1));
        refused(INDEX, Edges::played, g -> g.setCapacity(5, 31));
    }

    @Sentence(of = "Promise 5: setCapacity", says = "Throws `IllegalArgumentException` if the capacity is out of range")
    static void setCapacityOutOfRange() {
        refusedBeside(0, 30, ARGUMENT, Edges::made, (g, wrong) -> g.setCapacity(CONTAINER, wrong));
        refusedBeside(0, 30, ARGUMENT, Edges::played, (g, wrong) -> g.setCapacity(OBJECT, wrong));
        due(9, () -> made().setCapacity(SUPPORTER, 0));
        due(9, () -> made().setCapacity(SUPPORTER, 30));
    }

    @Sentence(of = "Promise 5: setCapacity", says = "Throws `UnsupportedOperationException` if the thing is neither a")
    static void setCapacityOfAWrongKind() {
        for (int thing : new int[] {OBJECT, LAMP, DOOR}) {
            refused(KIND, Edges::made, g -> g.setCapacity(thing, 0));
            refused(KIND, Edges::played, g -> g.setCapacity(thing, 30));
        }
        due(9, () -> made().setCapacity(CONTAINER, 0));
        due(9, () -> made().setCapacity(SUPPORTER, 0));
    }

    private static Game filled() {
        Game g = made();
        g.put(LAMP, INSIDE, CONTAINER);
        g.put(OBJECT, INSIDE, CONTAINER);
        g.put(CONTAINER, UPON, SUPPORTER);
        return g;
    }

    @Sentence(of = "Promise 5: setCapacity", says = "Throws `IllegalStateException` if the world is played, or what")
    static void setCapacityNeedsMore() {
        refused(STATE, MakingEdges::filled, g -> g.setCapacity(CONTAINER, 4));
        refused(STATE, MakingEdges::filled, g -> g.setCapacity(CONTAINER, 0));
        refused(STATE, MakingEdges::filled, g -> g.setCapacity(SUPPORTER, 1));
        due(9, () -> filled().setCapacity(CONTAINER, 5));
        due(9, () -> filled().setCapacity(SUPPORTER, 2));
        refused(STATE, Edges::played, g -> g.setCapacity(CONTAINER, 9));
        refused(STATE, Edges::played, g -> g.setCapacity(SUPPORTER, 30));
    }

    @Sentence(of = "Promise 6: setFlag", says = "Sets or removes a flag of a thing.")
    static void setsAndRemovesFlags() {
        Game g = oneOfEach();
        g.setFlag(CONTAINER, FIXED, true);
        g.setFlag(CONTAINER, LOCKED, true);
        g.setFlag(CONTAINER, TRANSPARENT, true);
        due(flags(FIXED, LOCKED, TRANSPARENT), () -> g.thing(CONTAINER, 8));
        g.setFlag(CONTAINER, LOCKED, false);
        due(flags(FIXED, TRANSPARENT), () -> g.thing(CONTAINER, 8));
        g.setFlag(CONTAINER, LOCKED, false);
        due(flags(FIXED, TRANSPARENT), () -> g.thing(CONTAINER, 8));
        g.setFlag(CONTAINER, FIXED, false);
        g.setFlag(CONTAINER, TRANSPARENT, false);
        due(0, () -> g.thing(CONTAINER, 8));
        due(0, () -> g.thing(OBJECT, 8));
    }

    @Sentence(of = "Promise 6: setFlag", says = "Returns whether it had it before.")
    static void whetherItHadTheFlag() {
        int[] things = {OBJECT, DOOR, CONTAINER, CONTAINER, LAMP};
        for (int flag = FIXED; flag <= LIT; flag++) {
            final int f = flag;
            Game g = oneOfEach();
            due(false, () -> g.setFlag(things[f], f, false));
            due(false, () -> g.setFlag(things[f], f, true));
            due(true, () -> g.setFlag(things[f], f, true));
            due(true, () -> g.setFlag(things[f], f, false));
            due(false, () -> g.setFlag(things[f], f, false));
        }
    }

    @Sentence(of = "Promise 6: setFlag", says = "Throws `IndexOutOfBoundsException` if there is no such thing")
    static void setFlagNoSuchThing() {
        refusedBeside(0, DOOR, INDEX, Edges::made, (g, wrong) -> g.setFlag(wrong, FIXED, true));
        refusedBeside(0, DOOR, INDEX, Edges::played, (g, wrong) -> g.setFlag(wrong, 5, true));
    }

    @Sentence(of = "Promise 6: setFlag", says = "Throws `IllegalArgumentException` if the flag is not from 0 to 4")
    static void setFlagNoSuchFlag() {
        refusedBeside(FIXED, LIT, ARGUMENT, Edges::made, (g, wrong) -> g.setFlag(CONTAINER, wrong, true));
        refusedBeside(FIXED, LIT, ARGUMENT, Edges::made, (g, wrong) -> g.setFlag(OBJECT, wrong, false));
        refusedBeside(FIXED, LIT, ARGUMENT, Edges::played, (g, wrong) -> g.setFlag(DOOR, wrong, true));
        due(false, () -> made().setFlag(OBJECT, FIXED, true));
        due(false, () -> made().setFlag(LAMP, LIT, true));
    }

    @Sentence(of = "Promise 6: setFlag", says = "Throws `UnsupportedOperationException` if things of its kind cannot")
    static void setFlagOfAWrongKind() {
        boolean[][] can = {{true, false, false, false, false}, {true, true, true, true, false},
            {true, false, false, false, false}, {false, false, false, false, true}, {false, true, true, false, false}};
        for (int thing = OBJECT; thing <= DOOR; thing++) {
            for (int flag = FIXED; flag <= LIT; flag++) {
                final int t = thing;
                final int f = flag;
                if (!can[t][f]) {
                    refused(KIND, Edges::made, g -> g.setFlag(t, f, true));
                    refused(KIND, Edges::made, g -> g.setFlag(t, f, false));
                    refused(KIND, Edges::played, g -> g.setFlag(t, f, true));
                } else {
                    due(false, () -> made().setFlag(t, f, true));
                }
            }
        }
    }

    private static Game flagged(int thing, int flag) {
        Game g = made();
        g.setFlag(thing, flag, true);
        return g;
    }

    @Sentence(of = "Promise 6: setFlag", says = "Throws `IllegalStateException` if the world is played, the thing")
    static void setFlagThatMustNotBe() {
        for (int thing : new int[] {CONTAINER, DOOR}) {
            refused(STATE, () -> flagged(thing, OPEN), g -> g.setFlag(thing, LOCKED, true));
            refused(STATE, () -> flagged(thing, LOCKED), g -> g.setFlag(thing, OPEN, true));
            due(true, () -> flagged(thing, OPEN).setFlag(thing, OPEN, true));
            due(true, () -> flagged(thing, LOCKED).setFlag(thing, LOCKED, true));
            due(false, () -> flagged(thing, OPEN).setFlag(thing, LOCKED, false));
            due(false, () -> flagged(thing, LOCKED).setFlag(thing, OPEN, false));
        }
        due(false, () -> flagged(CONTAINER, OPEN).setFlag(CONTAINER, TRANSPARENT, true));
        due(false, () -> flagged(CONTAINER, LOCKED).setFlag(CONTAINER, FIXED, true));
        refused(STATE, MakingEdges::withoutFuel, g -> g.setFlag(LAMP, LIT, true));
        due(false, () -> withoutFuel().setFlag(LAMP, LIT, false));
        due(false, () -> made().setFlag(LAMP, LIT, true));
        refused(STATE, Edges::played, g -> g.setFlag(OBJECT, FIXED, true));
        refused(STATE, Edges::played, g -> g.setFlag(OBJECT, FIXED, false));
    }

    private static Game withoutFuel() {
        Game g = made();
        g.setFuel(LAMP, 0);
        return g;
    }

    @Sentence(of = "Promise 7: setKey", says = "Sets the key of a container or door.")
    static void setsTheKey() {
        Game g = oneOfEach();
        g.setKey(CONTAINER, OBJECT);
        g.setKey(DOOR, LAMP);
        due(OBJECT, () -> g.thing(CONTAINER, 7));
        due(LAMP, () -> g.thing(DOOR, 7));
        g.begin(0);
        says(g, "lock box with lamp", "done 0, 8 3 0");
        says(g, "lock box with coin. lock door with lamp", "done 2");
    }

    @Sentence(of = "Promise 7: setKey", says = "- `key`: the key, any thing, or -1 for none")
    static void anyThingIsAKey() {
        for (int key = -1; key <= DOOR; key++) {
            final int k = key;
            Game g = oneOfEach();
            g.setKey(DOOR, k);
            g.setKey(CONTAINER, k);
            due(k, () -> g.thing(DOOR, 7));
            due(k, () -> g.thing(CONTAINER, 7));
        }
        Game many = things(16);
        due(-1, () -> many.setKey(0, 15));
        due(15, () -> many.thing(0, 7));
    }

    @Sentence(of = "Promise 7: setKey", says = "Returns the key before, or -1.")
    static void theKeyBefore() {
        Game g = oneOfEach();
        due(-1, () -> g.setKey(CONTAINER, 0));
        due(0, () -> g.setKey(CONTAINER, DOOR));
        due(DOOR, () -> g.setKey(CONTAINER, -1));
        due(-1, () -> g.setKey(CONTAINER, -1));
    }

    @Sentence(of = "Promise 7: setKey", says = "Throws `IndexOutOfBoundsException` if there is no such thing or key")
    static void setKeyNoSuchThing() {
        refusedBeside(0, DOOR, INDEX, Edges::made, (g, wrong) -> g.setKey(wrong, 0));
        refusedBeside(-1, DOOR, INDEX, Edges::made, (g, wrong) -> g.setKey(CONTAINER, wrong));
        refusedBeside(-1, DOOR, INDEX, Edges::played, (g, wrong) -> g.setKey(OBJECT, wrong));
        refused(INDEX, () -> things(16), g -> g.setKey(0, 16));
        refused(INDEX, Edges::made, g -> g.setKey(-1, -1));
    }

    @Sentence(of = "Promise 7: setKey", says = "Throws `UnsupportedOperationException` if the thing is neither a")
    static void setKeyOfAWrongKind() {
        for (int thing : new int[] {OBJECT, SUPPORTER, LAMP}) {
            refused(KIND, Edges::made, g -> g.setKey(thing, 0));
            refused(KIND, Edges::made, g -> g.setKey(thing, -1));
            refused(KIND, Edges::played, g -> g.setKey(thing, 0));
        }
        due(-1, () -> made().setKey(CONTAINER, 0));
        due(-1, () -> made().setKey(DOOR, 0));
    }

    @Sentence(of = "Promise 7: setKey", says = "Throws `IllegalStateException` if the world is played")
    static void setKeyWhilePlayed() {
        refused(STATE, Edges::played, g -> g.setKey(CONTAINER, 0));
        refused(STATE, Edges::played, g -> g.setKey(DOOR, -1));
    }

    @Sentence(of = "Promise 8: setFuel", says = "Sets the fuel of a lamp.")
    static void setsTheFuel() {
        Game g = oneOfEach();
        g.setFuel(LAMP, 99);
        due(99, () -> g.thing(LAMP, 6));
        g.setFuel(LAMP, 0);
        due(0, () -> g.thing(LAMP, 6));
        g.setFuel(LAMP, 1);
        due(1, () -> g.thing(LAMP, 6));
    }

    @Sentence(of = "Promise 8: setFuel", says = "Returns the fuel before.")
    static void theFuelBefore() {
        Game g = rooms(true);
        g.addThing(LAMP, LIGHT, 0, 1);
        due(0, () -> g.setFuel(0, 99));
        due(99, () -> g.setFuel(0, 0));
        due(0, () -> g.setFuel(0, 0));
    }

    @Sentence(of = "Promise 8: setFuel", says = "Throws `IndexOutOfBoundsException` if there is no such thing")
    static void setFuelNoSuchThing() {
        refusedBeside(0, DOOR, INDEX, Edges::made, (g, wrong) -> g.setFuel(wrong, 9));
        refusedBeside(0, DOOR, INDEX, Edges::played, (g, wrong) -> g.setFuel(wrong, 100));
    }

    @Sentence(of = "Promise 8: setFuel", says = "Throws `IllegalArgumentException` if the fuel is out of range")
    static void setFuelOutOfRange() {
        refusedBeside(0, 99, ARGUMENT, Edges::made, (g, wrong) -> g.setFuel(LAMP, wrong));
        refusedBeside(0, 99, ARGUMENT, Edges::played, (g, wrong) -> g.setFuel(OBJECT, wrong));
        due(9, () -> made().setFuel(LAMP, 0));
        due(9, () -> made().setFuel(LAMP, 99));
    }

    @Sentence(of = "Promise 8: setFuel", says = "Throws `UnsupportedOperationException` if the thing is no lamp")
    static void setFuelOfAWrongKind() {
        for (int thing : new int[] {OBJECT, CONTAINER, SUPPORTER, DOOR}) {
            refused(KIND, Edges::made, g -> g.setFuel(thing, 0));
            refused(KIND, Edges::played, g -> g.setFuel(thing, 1));
        }
    }

    @Sentence(of = "Promise 8: setFuel", says = "Throws `IllegalStateException` if the world is played, or the lamp")
    static void setFuelOfALitLamp() {
        refused(STATE, () -> flagged(LAMP, LIT), g -> g.setFuel(LAMP, 0));
        due(9, () -> flagged(LAMP, LIT).setFuel(LAMP, 1));
        due(9, () -> made().setFuel(LAMP, 0));
        refused(STATE, Edges::played, g -> g.setFuel(LAMP, 5));
        refused(STATE, Edges::played, g -> g.setFuel(LAMP, 0));
    }

    @Sentence(of = "Promise 9: setWorth", says = "Sets the worth of a thing.")
    static void setsTheWorth() {
        Game g = oneOfEach();
        for (int thing = OBJECT; thing <= DOOR; thing++) {
            g.setWorth(thing, 9 - thing);
        }
        for (int thing = OBJECT; thing <= DOOR; thing++) {
            final int t = thing;
            due(9 - t, () -> g.thing(t, 5));
        }
    }

    @Sentence(of = "Promise 9: setWorth", says = "Returns the worth before.")
    static void theWorthBefore() {
        Game g = oneOfEach();
        due(0, () -> g.setWorth(OBJECT, 9));
        due(9, () -> g.setWorth(OBJECT, 0));
        due(0, () -> g.setWorth(OBJECT, 1));
    }

    @Sentence(of = "Promise 9: setWorth", says = "Throws `IndexOutOfBoundsException` if there is no such thing")
    static void setWorthNoSuchThing() {
        refusedBeside(0, DOOR, INDEX, Edges::made, (g, wrong) -> g.setWorth(wrong, 9));
        refusedBeside(0, DOOR, INDEX, Edges::played, (g, wrong) -> g.setWorth(wrong, 10));
    }

    @Sentence(of = "Promise 9: setWorth", says = "Throws `IllegalArgumentException` if the worth is out of range")
    static void setWorthOutOfRange() {
        refusedBeside(0, 9, ARGUMENT, Edges::made, (g, wrong) -> g.setWorth(OBJECT, wrong));
        refusedBeside(0, 9, ARGUMENT, Edges::played, (g, wrong) -> g.setWorth(DOOR, wrong));
        due(0, () -> made().setWorth(DOOR, 0));
        due(0, () -> made().setWorth(DOOR, 9));
    }

    @Sentence(of = "Promise 9: setWorth", says = "Throws `IllegalStateException` if the world is played")
    static void setWorthWhilePlayed() {
        refused(STATE, Edges::played, g -> g.setWorth(OBJECT, 1));
        refused(STATE, Edges::played, g -> g.setWorth(OBJECT, 0));
    }

    @Sentence(of = "Promise 10: put", says = "Puts a thing, with what is in or on it, at a place.")
    static void putWithWhatIsInIt() {
        Game g = filled();
        due(IN_ROOM, () -> g.put(SUPPORTER, CARRIED, 0));
        due(-1, () -> g.outer(OBJECT));
        due(CARRIED, () -> g.put(SUPPORTER, IN_ROOM, 1));
        due(1, () -> g.outer(OBJECT));
        due(CONTAINER, () -> g.thing(OBJECT, 10));
        due(UPON, () -> g.put(CONTAINER, NOWHERE, 0));
        due(1, () -> g.outer(SUPPORTER));
        due(-2, () -> g.outer(OBJECT));
        due(INSIDE, () -> g.put(OBJECT, IN_ROOM, 0));
        due(-2, () -> g.outer(LAMP));
    }

    @Sentence(of = "Promise 10: put", says = "- `target`: the room, container or supporter; it does not matter for the")
    static void theTargetDoesNotMatter() {
        for (int target : new int[] {MIN, -2, -1, 0, DOOR, 5, 16, MAX}) {
            for (int place : new int[] {CARRIED, NOWHERE}) {
                Game g = made();
                due(IN_ROOM, () -> g.put(OBJECT, place, target));
                due(place, () -> g.thing(OBJECT, 9));
                due(-1, () -> g.thing(OBJECT, 10));
                due(OBJECT, () -> g.content(place, target, 0));
            }
        }
    }

    @Sentence(of = "Promise 10: put", says = "Returns the place before.")
    static void thePlaceBefore() {
        Game g = oneOfEach();
        due(IN_ROOM, () -> g.put(OBJECT, IN_ROOM, 1));
        due(IN_ROOM, () -> g.put(OBJECT, INSIDE, CONTAINER));
        due(INSIDE, () -> g.put(OBJECT, UPON, SUPPORTER));
        due(UPON, () -> g.put(OBJECT, CARRIED, 0));
        due(CARRIED, () -> g.put(OBJECT, NOWHERE, 0));
        due(NOWHERE, () -> g.put(OBJECT, NOWHERE, 0));
    }

    @Sentence(of = "Promise 10: put", says = "Throws `IndexOutOfBoundsException` if there is no such thing")
    static void putNoSuchThing() {
        refusedBeside(0, DOOR, INDEX, Edges::made, (g, wrong) -> g.put(wrong, IN_ROOM, 0));
        refusedBeside(0, DOOR, INDEX, Edges::played, (g, wrong) -> g.put(wrong, 5, 99));
    }

    @Sentence(of = "Promise 10: put", says = "Throws `IllegalArgumentException` if there is no such place, or no such")
    static void putAtNoSuchPlace() {
        refusedBeside(IN_ROOM, NOWHERE, ARGUMENT, Edges::made, (g, wrong) -> g.put(OBJECT, wrong, 0));
        refusedBeside(0, 1, ARGUMENT, Edges::made, (g, wrong) -> g.put(OBJECT, IN_ROOM, wrong));
        refusedBeside(0, DOOR, ARGUMENT, Edges::made, (g, wrong) -> g.put(OBJECT, INSIDE, wrong));
        refusedBeside(0, DOOR, ARGUMENT, Edges::made, (g, wrong) -> g.put(OBJECT, UPON, wrong));
        // A door is of the wrong kind, too, but that is listed later.
        refused(ARGUMENT, Edges::played, g -> g.put(DOOR, 5, 0));
        refused(ARGUMENT, Edges::played, g -> g.put(DOOR, IN_ROOM, 2));
        refused(ARGUMENT, Edges::played, g -> g.put(DOOR, INSIDE, 5));
        refused(ARGUMENT, Edges::played, g -> g.put(DOOR, UPON, -1));
        // There are five things and two rooms: each number is one for its own place.
        due(KIND, () -> made().put(OBJECT, INSIDE, DOOR));
        due(IN_ROOM, () -> made().put(OBJECT, IN_ROOM, 1));
    }

    @Sentence(of = "Promise 10: put", says = "Throws `UnsupportedOperationException` if the thing is a door, or the")
    static void putOfAWrongKind() {
        for (int target = OBJECT; target <= DOOR; target++) {
            final int t = target;
            if (t != CONTAINER) {
                refused(KIND, Edges::made, g -> g.put(LAMP, INSIDE, t));
                refused(KIND, Edges::played, g -> g.put(t, INSIDE, t));
            }
            if (t != SUPPORTER) {
                refused(KIND, Edges::made, g -> g.put(LAMP, UPON, t));
                refused(KIND, Edges::played, g -> g.put(t, UPON, t));
            }
            refused(KIND, Edges::made, g -> g.put(DOOR, t, t == IN_ROOM ? 0 : t));
            refused(KIND, Edges::played, g -> g.put(DOOR, t, t == IN_ROOM ? 0 : t));
        }
        due(IN_ROOM, () -> made().put(LAMP, INSIDE, CONTAINER));
        due(IN_ROOM, () -> made().put(LAMP, UPON, SUPPORTER));
    }

    @Sentence(of = "Promise 10: put", says = "Throws `IllegalStateException` if the world is played, the thing would")
    static void putIntoItself() {
        refused(STATE, MakingEdges::filled, g -> g.put(CONTAINER, INSIDE, CONTAINER));
        refused(STATE, MakingEdges::filled, g -> g.put(SUPPORTER, UPON, SUPPORTER));
        refused(STATE, MakingEdges::filled, g -> g.put(SUPPORTER, INSIDE, CONTAINER));
        due(UPON, () -> filled().put(CONTAINER, UPON, SUPPORTER));
        refused(STATE, Edges::played, g -> g.put(OBJECT, IN_ROOM, 0));
        refused(STATE, Edges::played, g -> g.put(OBJECT, NOWHERE, 0));
    }

    /** A box with a coin of the size 9 in it for which it is just great enough; the last things are one and eight. */
    private static Game full(int place) {
        Game g = rooms(true);
        holder(g, CONTAINER, BOX, 3, 9);
        object(g, COIN, 9, INSIDE, 0);
        object(g, KEY, 1, IN_ROOM, 0);
        object(g, ROPE, 8, IN_ROOM, 0);
        g.put(0, place, 0);
        return g;
    }

    @Sentence(of = "Promise 10: put", says = "Throws `IllegalStateException` if the world is played, the thing would")
    static void putTooMuchInside() {
        refused(STATE, () -> full(IN_ROOM), g -> g.put(2, INSIDE, 0));
        refused(STATE, () -> full(NOWHERE), g -> g.put(2, INSIDE, 0));
        // Without the thing at its present place there is room for it.
        due(INSIDE, () -> full(IN_ROOM).put(1, INSIDE, 0));
        due(INSIDE, () -> full(NOWHERE).put(1, INSIDE, 0));
        Game g = full(IN_ROOM);
        g.setCapacity(0, 10);
        due(IN_ROOM, () -> g.put(2, INSIDE, 0));
        due(STATE, () -> g.put(3, INSIDE, 0));
        due(INSIDE, () -> g.put(1, NOWHERE, 0));
        due(IN_ROOM, () -> g.put(3, INSIDE, 0));
    }

    @Sentence(of = "Promise 10: put", says = "Throws `IllegalStateException` if the world is played, the thing would")
    static void putTooMuchLoad() {
        Game g = full(CARRIED);
        g.setCapacity(0, 30);
        due(12, () -> g.count(9));
        due(IN_ROOM, () -> g.put(3, CARRIED, 0));
        due(20, () -> g.count(9));
        due(STATE, () -> g.put(2, CARRIED, 0));
        due(STATE, () -> g.put(2, INSIDE, 0));
        // What is carried already, at its present place, does not count twice.
        due(CARRIED, () -> g.put(3, CARRIED, 0));
        due(CARRIED, () -> g.put(3, INSIDE, 0));
        due(INSIDE, () -> g.put(1, CARRIED, 0));
        due(CARRIED, () -> g.put(0, CARRIED, 0));
        due(20, () -> g.count(9));
        due(CARRIED, () -> g.put(0, NOWHERE, 0));
        due(IN_ROOM, () -> g.put(2, INSIDE, 0));
        due(STATE, () -> g.put(0, CARRIED, 0));
        due(INSIDE, () -> g.put(2, NOWHERE, 0));
        due(NOWHERE, () -> g.put(0, CARRIED, 0));
    }

    @Sentence(of = "Promise 11: addDaemon", says = "Adds a daemon.")
    static void addsADaemon() {
        Game g = oneOfEach();
        int[][] want = {{MOVER, OBJECT, 2, -1, 0, 0}, {CLOSER, DOOR, 20, -1, 0, 1}};
        due(1, () -> g.addDaemon(CLOSER, DOOR, 20, true));
        due(2, () -> g.count(2));
        for (int daemon = 0; daemon < 2; daemon++) {
            for (int what = 0; what < 6; what++) {
                final int d = daemon;
                final int n = what;
                due(want[d][n], () -> g.daemon(d, n));
            }
        }
        due(INDEX, () -> g.daemon(2, 0));
    }

    @Sentence(of = "Promise 11: addDaemon", says = "- `kind`: the kind, 0 to 3")
    static void theKindsOfDaemons() {
        int[] things = {CONTAINER, OBJECT, CONTAINER, LAMP};
        for (int kind = CLOSER; kind <= SWITCHER; kind++) {
            final int k = kind;
            Game g = made();
            due(1, () -> g.addDaemon(k, things[k], 1, false));
            due(k, () -> g.daemon(1, 0));
        }
        refused(ARGUMENT, Edges::made, g -> g.addDaemon(-1, CONTAINER, 1, false));
        refused(ARGUMENT, Edges::made, g -> g.addDaemon(4, CONTAINER, 1, false));
    }

    @Sentence(of = "Promise 11: addDaemon", says = "- `once`: whether it acts only once")
    static void onceOrNot() {
        for (int set = 0; set < 64; set++) {
            Game g = things(1);
            for (int daemon = 0; daemon < 6; daemon++) {
                g.addDaemon(CLOSER, 0, 1, (set >> daemon & 1) != 0);
            }
            g.begin(0);
            waits(g, 1);
            for (int daemon = 0; daemon < 6; daemon++) {
                final int d = daemon;
                boolean once = (set >> d & 1) != 0;
                due(once ? 1 : 0, () -> g.daemon(d, 5));
                due(once ? -1 : 2, () -> g.daemon(d, 3));
            }
        }
    }

    @Sentence(of = "Promise 11: addDaemon", says = "Returns the number of the daemon.")
    static void theNumberOfTheDaemon() {
        Game g = things(1);
        for (int daemon = 0; daemon < 6; daemon++) {
            final int d = daemon;
            due(d, () -> g.addDaemon(MOVER, 0, 1, false));
        }
    }

    @Sentence(of = "Promise 11: addDaemon", says = "Throws `IndexOutOfBoundsException` if there is no such thing")
    static void addDaemonNoSuchThing() {
        refusedBeside(0, DOOR, INDEX, Edges::made, (g, wrong) -> g.addDaemon(MOVER, wrong, 1, true));
        refusedBeside(0, DOOR, INDEX, Edges::played, (g, wrong) -> g.addDaemon(4, wrong, 0, true));
    }

    @Sentence(of = "Promise 11: addDaemon", says = "Throws `IllegalArgumentException` if the kind or the period is")
    static void addDaemonOutOfRange() {
        refusedBeside(CLOSER, SWITCHER, ARGUMENT, Edges::made, (g, wrong) -> g.addDaemon(wrong, CONTAINER, 1, true));
        refusedBeside(1, 20, ARGUMENT, Edges::made, (g, wrong) -> g.addDaemon(CLOSER, CONTAINER, wrong, true));
        refused(ARGUMENT, Edges::played, g -> g.addDaemon(4, DOOR, 1, true));
        refused(ARGUMENT, Edges::played, g -> g.addDaemon(MOVER, DOOR, 0, true));
        refused(ARGUMENT, Edges::played, g -> g.addDaemon(MOVER, DOOR, 21, true));
        refused(ARGUMENT, () -> daemons(6), g -> g.addDaemon(MOVER, 0, 21, true));
        due(1, () -> made().addDaemon(CLOSER, CONTAINER, 1, true));
        due(1, () -> made().addDaemon(CLOSER, CONTAINER, 20, true));
    }

    @Sentence(of = "Promise 11: addDaemon", says = "Throws `UnsupportedOperationException` if the thing is not of a")
    static void addDaemonOfAWrongKind() {
        boolean[][] can = {{false, true, false, false, true}, {true, true, true, true, false},
            {false, true, false, false, false}, {false, false, false, true, false}};
        for (int kind = CLOSER; kind <= SWITCHER; kind++) {
            for (int thing = OBJECT; thing <= DOOR; thing++) {
                final int k = kind;
                final int t = thing;
                if (can[k][t]) {
                    due(1, () -> made().addDaemon(k, t, 1, true));
                } else {
                    refused(KIND, Edges::made, g -> g.addDaemon(k, t, 1, true));
                    refused(KIND, Edges::played, g -> g.addDaemon(k, t, 20, false));
                }
            }
        }
        refused(KIND, () -> daemons(6), g -> g.addDaemon(SWITCHER, 0, 1, true));
    }

    private static Game daemons(int daemons) {
        Game g = things(1);
        for (int daemon = 0; daemon < daemons; daemon++) {
            g.addDaemon(CLOSER, 0, daemon + 1, false);
        }
        return g;
    }

    @Sentence(of = "Promise 11: addDaemon", says = "Throws `IllegalStateException` if the world is played, or there")
    static void noSeventhDaemon() {
        due(5, () -> daemons(5).addDaemon(MOVER, 0, 1, true));
        refused(STATE, () -> daemons(6), g -> g.addDaemon(MOVER, 0, 1, true));
        refused(STATE, Edges::played, g -> g.addDaemon(MOVER, 0, 1, true));
    }

    @Sentence(of = "Promise 12: begin", says = "Begins to play.")
    static void beginsToPlay() {
        Game g = oneOfEach();
        due(STATE, g::stop);
        due(5, () -> g.begin(1));
        counts(g, 2, 5, 1, 0, 1);
        due(0, g::stop);
    }

    @Sentence(of = "Promise 12: begin", says = "There are no events, and no daemon has acted.")
    static void noEventsAtFirst() {
        Game g = rooms(true, true, true);
        int coin = object(g, COIN, 1, IN_ROOM, 0);
        g.connect(0, NORTH, 1, -1);
        g.connect(0, EAST, 2, -1);
        g.connect(1, SOUTH, 0, -1);
        g.addDaemon(MOVER, coin, 1, false);
        g.addDaemon(MOVER, coin, 1, true);
        for (int round = 0; round < 2; round++) {
            g.begin(0);
            due(0, () -> g.count(8));
            due(INDEX, () -> g.event(0));
            due(1, () -> g.daemon(0, 3));
            due(0, () -> g.daemon(0, 4));
            due(1, () -> g.daemon(1, 3));
            due(0, () -> g.daemon(1, 4));
            waits(g, 1);
            due("200 200", g::events);
            due(-1, () -> g.daemon(1, 3));
            waits(g, 1);
            // The first daemon moved it north, so it goes on with east; the second one brought it back.
            due(2, () -> g.outer(coin));
            g.stop();
        }
    }

    @Sentence(of = "Promise 12: begin", says = "- `room`: the room of the player")
    static void theRoomOfThePlayer() {
        for (int room = 0; room < 8; room++) {
            final int r = room;
            Game g = manyRooms(8);
            g.begin(r);
            due(r, () -> g.count(4));
            waits(g, 1);
            due(r, () -> g.count(4));
        }
    }

    @Sentence(of = "Promise 12: begin", says = "Returns the number of things.")
    static void beginTellsTheThings() {
        for (int things = 0; things <= 16; things++) {
            final int n = things;
            due(n, () -> things(n).begin(0));
        }
    }

    @Sentence(of = "Promise 12: begin", says = "Throws `IndexOutOfBoundsException` if there is no such room")
    static void beginInNoSuchRoom() {
        refusedBeside(0, 1, INDEX, Edges::made, (g, wrong) -> g.begin(wrong));
        refusedBeside(0, 1, INDEX, Edges::played, (g, wrong) -> g.begin(wrong));
        refused(INDEX, Game::new, g -> g.begin(0));
        refused(INDEX, () -> manyRooms(8), g -> g.begin(8));
        due(0, () -> manyRooms(8).begin(7));
    }

    @Sentence(of = "Promise 12: begin", says = "Throws `IllegalStateException` if the world is played")
    static void beginWhilePlayed() {
        refused(STATE, Edges::played, g -> g.begin(0));
        refused(STATE, Edges::played, g -> g.begin(1));
    }

    @Sentence(of = "Promise 13: stop", says = "Stops playing; the world is as it was when begin was called.")
    static void stopsPlaying() {
        Game g = made();
        List<Object> before = g.world();
        g.begin(0);
        g.say("k. take all. light lamp. open door. north. drop all");
        due(5, g::stop);
        same("the world", before, g.world());
        due(STATE, g::stop);
        due(STATE, g::command);
        due(5, () -> g.addThing(OBJECT, BOX, 0, 1));
    }

    @Sentence(of = "Promise 13: stop", says = "Stops playing; the world is as it was when begin was called.")
    static void stopsWithEventsAndDaemons() {
        Game g = oneOfEach();
        g.setFlag(DOOR, OPEN, true);
        g.addDaemon(CLOSER, DOOR, 3, true);
        g.addDaemon(SWITCHER, LAMP, 1, false);
        List<Object> before = g.world();
        g.begin(0);
        waits(g, 12);
        due(true, () -> g.count(8) > 12);
        g.stop();
        same("the world", before, g.world());
        due(INDEX, () -> g.event(0));
    }

    @Sentence(of = "Promise 13: stop", says = "Returns the clock as it was.")
    static void stopTellsTheClock() {
        for (int turns = 0; turns < 13; turns++) {
            final int n = turns;
            Game g = made();
            g.begin(0);
            g.say("k. look");
            waits(g, n);
            due(n, g::stop);
        }
    }

    @Sentence(of = "Promise 13: stop", says = "Throws `IllegalStateException` if the world is not played")
    static void stopWhileNotPlayed() {
        refused(STATE, Edges::made, Game::stop);
        refused(STATE, Game::new, Game::stop);
        refused(STATE, () -> {
            Game g = played();
            g.stop();
            return g;
        }, Game::stop);
    }
}
