/** Promises 22 to 24, 28 to 33, 37 and 38: what can be asked of a world. */
final class AskingEdges extends Edges {
    private static final String[] NOUNS = {"box", "lamp", "key", "door", "coin", "rope", "book", "bell"};

    /** The same two rooms and sixteen things, full of the greatest numbers that there are. */
    private static Game greatest() {
        Game g = manyRooms(8);
        for (int thing = 0; thing < 16; thing++) {
            g.addThing(thing == 14 ? LAMP : CONTAINER, BELL, BIG, thing < 14 ? 9 : 1);
            g.setWorth(thing, 9);
        }
        g.setCapacity(15, 30);
        g.setKey(15, 15);
        g.setFuel(14, 99);
        g.put(15, IN_ROOM, 7);
        for (int thing = 0; thing < 3; thing++) {
            g.put(thing, INSIDE, 15);
        }
        g.put(14, INSIDE, 15);
        return g;
    }

    @Sentence(of = "Promise 22: thing", says = "Returns a number of a thing.")
    static void theNumbersOfAThing() {
        Game g = greatest();
        g.setFlag(15, FIXED, true);
        g.setFlag(15, LOCKED, true);
        g.setFlag(15, TRANSPARENT, true);
        g.setFlag(14, LIT, true);
        dueNumbers(g, 15, CONTAINER, BELL, BIG, 1, 30, 9, 0, 15, flags(FIXED, LOCKED, TRANSPARENT), IN_ROOM, 7, 28);
        dueNumbers(g, 14, LAMP, BELL, BIG, 1, 0, 9, 99, -1, flags(LIT), INSIDE, 15, 0);
        dueNumbers(g, 2, CONTAINER, BELL, BIG, 9, 0, 9, 0, -1, 0, INSIDE, 15, 0);
        dueNumbers(g, 3, CONTAINER, BELL, BIG, 9, 0, 9, 0, -1, 0, NOWHERE, -1, 0);
        g.begin(7);
        waits(g, 1);
        dueNumbers(g, 14, LAMP, BELL, BIG, 1, 0, 9, 98, -1, flags(LIT), INSIDE, 15, 0);
    }

    private static void dueNumbers(Game g, int thing, int... want) {
        for (int what = 0; what < 12; what++) {
            final int n = what;
            due(want[n], () -> g.thing(thing, n));
        }
    }

    @Sentence(of = "Promise 22: thing", says = "- `what`: 0 for its kind, 1 for its noun, 2 for its adjective, 3 for")
    static void eachNumberOfEachKind() {
        Game g = oneOfEach();
        g.setKey(CONTAINER, 0);
        g.setWorth(DOOR, 9);
        g.setFlag(LAMP, LIT, true);
        g.put(LAMP, UPON, SUPPORTER);
        g.put(OBJECT, CARRIED, 1);
        g.put(SUPPORTER, NOWHERE, 1);
        dueNumbers(g, OBJECT, OBJECT, COIN, 0, 1, 0, 0, 0, -1, 0, CARRIED, -1, 0);
        dueNumbers(g, CONTAINER, CONTAINER, BOX, 0, 2, 9, 0, 0, 0, 0, IN_ROOM, 0, 0);
        dueNumbers(g, SUPPORTER, SUPPORTER, BELL, 0, 3, 9, 0, 0, -1, 0, NOWHERE, -1, 4);
        dueNumbers(g, LAMP, LAMP, LIGHT, 0, 4, 0, 0, 9, -1, flags(LIT), UPON, SUPPORTER, 0);
        dueNumbers(g, DOOR, DOOR, GATE, 0, 5, 0, 9, 0, -1, 0, NOWHERE, -1, 0);
    }

    @Sentence(of = "Promise 22: thing", says = "- `what`: 0 for its kind, 1 for its noun, 2 for its adjective, 3 for")
    static void onlyWhatIsDirectlyThere() {
        Game g = rooms(true);
        int box = openBox(g, IN_ROOM, 0);
        int bell = holder(g, SUPPORTER, BELL, 2, 30);
        int coin = object(g, COIN, 9, UPON, bell);
        due(9, () -> g.thing(bell, 11));
        due(0, () -> g.thing(box, 11));
        g.put(bell, INSIDE, box);
        due(2, () -> g.thing(box, 11));
        object(g, ROPE, 9, INSIDE, box);
        object(g, ROPE, 9, INSIDE, box);
        due(20, () -> g.thing(box, 11));
        // The room 0 and the thing 0, the box, have the same number.
        object(g, KEY, 5, IN_ROOM, 0);
        object(g, KEY, 5, CARRIED, 0);
        object(g, KEY, 5, NOWHERE, 0);
        due(20, () -> g.thing(box, 11));
        due(0, () -> g.thing(coin, 11));
    }

    @Sentence(of = "Promise 22: thing", says = "Throws `IndexOutOfBoundsException` if there is no such thing")
    static void noSuchThing() {
        refusedBeside(0, DOOR, INDEX, Edges::made, (g, wrong) -> g.thing(wrong, 0));
        refusedBeside(0, DOOR, INDEX, Edges::played, (g, wrong) -> g.thing(wrong, 12));
        refused(INDEX, Game::new, g -> g.thing(0, -1));
        due(INDEX, () -> greatest().thing(16, 0));
        due(CONTAINER, () -> greatest().thing(15, 0));
    }

    @Sentence(of = "Promise 22: thing", says = "Throws `IllegalArgumentException` if what is not from 0 to 11")
    static void noSuchNumberOfAThing() {
        refusedBeside(0, 11, ARGUMENT, Edges::made, (g, wrong) -> g.thing(OBJECT, wrong));
        refusedBeside(0, 11, ARGUMENT, Edges::played, (g, wrong) -> g.thing(DOOR, wrong));
    }

    @Sentence(of = "Promise 23: exit", says = "Returns the room to which an exit leads.")
    static void whereAnExitLeads() {
        Game g = manyRooms(8);
        for (int exit = 0; exit < 48; exit++) {
            if (exit % 3 > 0) {
                g.connect(exit / 6, exit % 6, exit * 5 % 8, -1);
            }
        }
        g.begin(0);
        for (int exit = 0; exit < 48; exit++) {
            final int e = exit;
            due(e % 3 > 0 ? e * 5 % 8 : MISSING, () -> g.exit(e / 6, e % 6));
        }
    }

    @Sentence(of = "Promise 23: exit", says = "Throws `IndexOutOfBoundsException` if there is no such room")
    static void exitOfNoRoom() {
        refusedBeside(0, 1, INDEX, Edges::made, (g, wrong) -> g.exit(wrong, NORTH));
        refusedBeside(0, 1, INDEX, Edges::played, (g, wrong) -> g.exit(wrong, 6));
        refused(INDEX, () -> manyRooms(8), g -> g.exit(8, -1));
    }

    @Sentence(of = "Promise 23: exit", says = "Throws `IllegalArgumentException` if there is no such direction")
    static void exitInNoDirection() {
        refusedBeside(NORTH, DOWN, ARGUMENT, Edges::made, (g, wrong) -> g.exit(0, wrong));
        refusedBeside(NORTH, DOWN, ARGUMENT, Edges::played, (g, wrong) -> g.exit(1, wrong));
    }

    @Sentence(of = "Promise 23: exit", says = "Throws `NoSuchElementException` if there is no exit")
    static void noExit() {
        for (int direction = EAST; direction <= DOWN; direction++) {
            final int d = direction;
            refused(MISSING, Edges::made, g -> g.exit(0, d));
            refused(MISSING, Edges::played, g -> g.exit(0, d));
        }
        due(1, () -> made().exit(0, NORTH));
        due(0, () -> made().exit(1, SOUTH));
        due(MISSING, () -> made().exit(1, NORTH));
        due(MISSING, () -> manyRooms(8).exit(7, DOWN));
        due(MISSING, () -> {
            Game g = made();
            g.connect(0, NORTH, -1, -1);
            return g.exit(0, NORTH);
        });
    }

    @Sentence(of = "Promise 24: door", says = "Returns the door of an exit.")
    static void theDoorOfAnExit() {
        Game g = manyRooms(8);
        for (int door = 0; door < 16; door++) {
            g.addThing(DOOR, GATE, 0, 1);
        }
        for (int exit = 0; exit < 48; exit++) {
            g.connect(exit / 6, exit % 6, 0, exit % 16);
        }
        g.begin(0);
        for (int exit = 0; exit < 48; exit++) {
            final int e = exit;
            due(e % 16, () -> g.door(e / 6, e % 6));
        }
    }

    @Sentence(of = "Promise 24: door", says = "Returns the door, or -1 if the exit has none.")
    static void noDoor() {
        due(DOOR, () -> made().door(0, NORTH));
        due(-1, () -> made().door(1, SOUTH));
        due(DOOR, () -> played().door(0, NORTH));
        due(-1, () -> played().door(1, SOUTH));
        Game g = oneOfEach();
        g.connect(0, NORTH, 1, -1);
        due(-1, () -> g.door(0, NORTH));
    }

    @Sentence(of = "Promise 24: door", says = "Throws `IndexOutOfBoundsException` if there is no such room")
    static void doorOfNoRoom() {
        refusedBeside(0, 1, INDEX, Edges::made, (g, wrong) -> g.door(wrong, NORTH));
        refusedBeside(0, 1, INDEX, Edges::played, (g, wrong) -> g.door(wrong, 6));
        refused(INDEX, () -> manyRooms(8), g -> g.door(8, -1));
    }

    @Sentence(of = "Promise 24: door", says = "Throws `IllegalArgumentException` if there is no such direction")
    static void doorInNoDirection() {
        refusedBeside(NORTH, DOWN, ARGUMENT, Edges::made, (g, wrong) -> g.door(0, wrong));
        refusedBeside(NORTH, DOWN, ARGUMENT, Edges::played, (g, wrong) -> g.door(1, wrong));
    }

    @Sentence(of = "Promise 24: door", says = "Throws `NoSuchElementException` if there is no exit")
    static void doorOfNoExit() {
        for (int direction = EAST; direction <= DOWN; direction++) {
            final int d = direction;
            refused(MISSING, Edges::made, g -> g.door(0, d));
            refused(MISSING, Edges::played, g -> g.door(0, d));
        }
        due(MISSING, () -> made().door(1, NORTH));
        due(MISSING, () -> manyRooms(8).door(7, DOWN));
    }

    @Sentence(of = "Promise 28: content", says = "Returns one of the things that are directly at a place, in")
    static void whatIsAtAPlace() {
        Game g = rooms(true, true);
        int box = openBox(g, IN_ROOM, 1);
        int bell = holder(g, SUPPORTER, BELL, 1, 30);
        g.put(bell, INSIDE, box);
        int[] places = {IN_ROOM, INSIDE, UPON, CARRIED, NOWHERE};
        int[] targets = {0, box, bell, 0, 0};
        // The things are put there in descending order.
        for (int thing = 2; thing < 16; thing++) {
            g.addThing(OBJECT, COIN, 0, 1);
        }
        for (int thing = 15; thing >= 2; thing--) {
            g.put(thing, places[thing % 5], targets[thing % 5]);
        }
        dueContent(g, IN_ROOM, 0, 5, 10, 15);
        dueContent(g, IN_ROOM, 1, box);
        dueContent(g, INSIDE, box, bell, 6, 11);
        dueContent(g, UPON, bell, 2, 7, 12);
        dueContent(g, CARRIED, 0, 3, 8, 13);
        dueContent(g, NOWHERE, 0, 4, 9, 14);
        dueContent(g, INSIDE, bell);
        dueContent(g, UPON, box);
        dueContent(g, INSIDE, 15);
        dueContent(g, UPON, 15);
    }

    private static void dueContent(Game g, int place, int target, int... things) {
        due(things.length, () -> g.content(place, target, -1));
        for (int i = 0; i < things.length; i++) {
            final int index = i;
            due(things[index], () -> g.content(place, target, index));
        }
        due(INDEX, () -> g.content(place, target, things.length));
    }

    @Sentence(of = "Promise 28: content", says = "- `target`: the room or thing; it does not matter for the places 3")
    static void theTargetDoesNotMatter() {
        Game g = oneOfEach();
        g.put(OBJECT, CARRIED, 0);
        g.put(LAMP, CARRIED, 1);
        for (int target : new int[] {MIN, -2, -1, 0, 1, DOOR, 5, 16, MAX}) {
            dueContent(g, CARRIED, target, OBJECT, LAMP);
            dueContent(g, NOWHERE, target, DOOR);
        }
    }

    @Sentence(of = "Promise 28: content", says = "- `index`: the index, from 0, or -1 for how many there are")
    static void howManyThereAre() {
        Game empty = new Game();
        due(0, () -> empty.content(CARRIED, 0, -1));
        due(0, () -> empty.content(NOWHERE, 0, -1));
        due(0, () -> rooms(true).content(IN_ROOM, 0, -1));
        Game full = rooms(true);
        for (int thing = 0; thing < 16; thing++) {
            final int n = thing;
            object(full, COIN, 1, IN_ROOM, 0);
            due(n + 1, () -> full.content(IN_ROOM, 0, -1));
            due(n, () -> full.content(IN_ROOM, 0, n));
            due(0, () -> full.content(IN_ROOM, 0, 0));
            due(INDEX, () -> full.content(IN_ROOM, 0, n + 1));
        }
    }

    @Sentence(of = "Promise 28: content", says = "Throws `IllegalArgumentException` if there is no such place, or no")
    static void contentOfNoPlace() {
        refusedBeside(IN_ROOM, NOWHERE, ARGUMENT, Edges::made, (g, wrong) -> g.content(wrong, 0, -1));
        refusedBeside(0, 1, ARGUMENT, Edges::made, (g, wrong) -> g.content(IN_ROOM, wrong, -1));
        refusedBeside(0, DOOR, ARGUMENT, Edges::made, (g, wrong) -> g.content(INSIDE, wrong, -1));
        refusedBeside(0, DOOR, ARGUMENT, Edges::made, (g, wrong) -> g.content(UPON, wrong, -1));
        refused(ARGUMENT, Edges::played, g -> g.content(5, 0, 99));
        refused(ARGUMENT, Edges::played, g -> g.content(IN_ROOM, 2, -2));
        refused(ARGUMENT, Edges::played, g -> g.content(INSIDE, 5, 99));
        refused(ARGUMENT, Edges::played, g -> g.content(UPON, -1, -2));
        for (int thing = OBJECT; thing <= DOOR; thing++) {
            final int t = thing;
            due(0, () -> made().content(INSIDE, t, -1));
            due(0, () -> made().content(UPON, t, -1));
        }
    }

    @Sentence(of = "Promise 28: content", says = "Throws `IndexOutOfBoundsException` if index is not -1 and there is")
    static void contentOfNoIndex() {
        // The four things that are no door lie in room 0.
        refusedBeside(-1, 3, INDEX, Edges::made, (g, wrong) -> g.content(IN_ROOM, 0, wrong));
        refusedBeside(-1, -1, INDEX, Edges::made, (g, wrong) -> g.content(IN_ROOM, 1, wrong));
        refusedBeside(-1, -1, INDEX, Edges::made, (g, wrong) -> g.content(CARRIED, 0, wrong));
        refusedBeside(-1, 0, INDEX, Edges::played, (g, wrong) -> g.content(NOWHERE, 0, wrong));
        refusedBeside(-1, -1, INDEX, Edges::played, (g, wrong) -> g.content(INSIDE, CONTAINER, wrong));
        refusedBeside(-1, -1, INDEX, Edges::played, (g, wrong) -> g.content(UPON, SUPPORTER, wrong));
    }

    @Sentence(of = "Promise 29: outer", says = "Returns the outer place of a thing.")
    static void theOuterPlace() {
        Game g = rooms(true, true);
        int box = openBox(g, IN_ROOM, 1);
        int bell = holder(g, SUPPORTER, BELL, 1, 9);
        int coin = object(g, COIN, 1, UPON, bell);
        due(1, () -> g.outer(box));
        due(-2, () -> g.outer(bell));
        due(-2, () -> g.outer(coin));
        g.put(bell, INSIDE, box);
        due(1, () -> g.outer(coin));
        g.setFlag(box, OPEN, false);
        due(1, () -> g.outer(coin));
        g.put(box, CARRIED, 0);
        due(-1, () -> g.outer(coin));
    }

    @Sentence(of = "Promise 29: outer", says = "Returns the room, or -1 for carried, or -2 for nowhere.")
    static void theRoomOrCarriedOrNowhere() {
        Game g = manyRooms(8);
        int coin = g.addThing(OBJECT, COIN, 0, 1);
        due(-2, () -> g.outer(coin));
        for (int room = 0; room < 8; room++) {
            final int r = room;
            g.put(coin, IN_ROOM, r);
            due(r, () -> g.outer(coin));
        }
        g.put(coin, CARRIED, 0);
        due(-1, () -> g.outer(coin));
        g.begin(5);
        due(-1, () -> g.outer(coin));
        says(g, "drop coin", "done 1");
        due(5, () -> g.outer(coin));
    }

    @Sentence(of = "Promise 29: outer", says = "Throws `IndexOutOfBoundsException` if there is no such thing")
    static void outerOfNoThing() {
        refusedBeside(0, DOOR, INDEX, Edges::made, (g, wrong) -> g.outer(wrong));
        refusedBeside(0, DOOR, INDEX, Edges::played, (g, wrong) -> g.outer(wrong));
        due(INDEX, () -> greatest().outer(16));
    }

    /** Eight light rooms, of which each leads to the next one, and the last one to the first one. */
    private static Game row() {
        Game g = rooms(true, true, true, true, true, true, true, true);
        for (int room = 0; room < 8; room++) {
            g.connect(room, room % 6, (room + 1) % 8, -1);
        }
        return g;
    }

    @Sentence(of = "Promise 30: distance", says = "Returns the least number of exits without a closed door that lead")
    static void theLeastNumberOfExits() {
        Game g = row();
        int door = g.addThing(DOOR, GATE, 0, 1);
        for (int from = 0; from < 8; from++) {
            for (int to = 0; to < 8; to++) {
                final int f = from;
                final int t = to;
                due((t - f + 8) % 8, () -> g.distance(f, t));
            }
        }
        g.connect(0, UP, 6, door);
        due(7, () -> g.distance(0, 7));
        g.setFlag(door, LOCKED, true);
        due(6, () -> g.distance(0, 6));
        g.setFlag(door, LOCKED, false);
        g.setFlag(door, OPEN, true);
        due(1, () -> g.distance(0, 6));
        due(2, () -> g.distance(0, 7));
        due(2, () -> g.distance(7, 6));
        g.begin(0);
        says(g, "close door", "done 1");
        due(6, () -> g.distance(0, 6));
        says(g, "open door", "done 1");
        due(1, () -> g.distance(0, 6));
    }

    @Sentence(of = "Promise 30: distance", says = "Returns the number, 0 from a room to itself.")
    static void fromARoomToItself() {
        Game g = manyRooms(8);
        for (int room = 0; room < 8; room++) {
            final int r = room;
            due(0, () -> g.distance(r, r));
        }
        g.connect(0, UP, 0, -1);
        due(0, () -> g.distance(0, 0));
        due(0, () -> row().distance(7, 7));
        due(7, () -> row().distance(1, 0));
    }

    @Sentence(of = "Promise 30: distance", says = "Throws `IndexOutOfBoundsException` if there is no such room")
    static void distanceOfNoRoom() {
        refusedBeside(0, 1, INDEX, Edges::made, (g, wrong) -> g.distance(wrong, 0));
        refusedBeside(0, 1, INDEX, Edges::made, (g, wrong) -> g.distance(1, wrong));
        refusedBeside(0, 1, INDEX, Edges::played, (g, wrong) -> g.distance(wrong, wrong));
        refused(INDEX, Game::new, g -> g.distance(0, 0));
        refused(INDEX, () -> manyRooms(8), g -> g.distance(0, 8));
    }

    @Sentence(of = "Promise 30: distance", says = "Throws `NoSuchElementException` if there is no such way")
    static void noSuchWay() {
        refused(MISSING, Edges::made, g -> g.distance(0, 1));
        refused(MISSING, () -> {
            Game g = oneOfEach();
            g.begin(0);
            g.say("open door. wait. close door");
            return g;
        }, g -> g.distance(0, 1));
        due(1, () -> played().distance(0, 1));
        due(1, () -> made().distance(1, 0));
        Game g = row();
        g.connect(3, 3, -1, -1);
        due(MISSING, () -> g.distance(0, 4));
        due(MISSING, () -> g.distance(3, 4));
        due(7, () -> g.distance(4, 3));
        due(MISSING, () -> manyRooms(8).distance(0, 7));
        due(MISSING, () -> manyRooms(8).distance(7, 6));
    }

    @Sentence(of = "Promise 31: worth", says = "Returns the worth of all things whose outer place is a room, or of")
    static void theWorthOfAll() {
        Game g = rooms(true, true);
        int box = openBox(g, IN_ROOM, 1);
        for (int thing = 1; thing < 16; thing++) {
            object(g, COIN, 1, INSIDE, box);
        }
        for (int thing = 0; thing < 16; thing++) {
            g.setWorth(thing, 9);
        }
        due(0, () -> g.worth(0));
        due(144, () -> g.worth(1));
        due(0, () -> g.worth(-1));
        g.put(box, CARRIED, 0);
        due(0, () -> g.worth(1));
        due(144, () -> g.worth(-1));
        g.put(15, IN_ROOM, 0);
        due(9, () -> g.worth(0));
        due(135, () -> g.worth(-1));
        g.put(box, NOWHERE, 0);
        due(0, () -> g.worth(-1));
        due(0, () -> g.worth(1));
    }

    @Sentence(of = "Promise 31: worth", says = "- `room`: the room, or -1 for carried")
    static void theRoomOrCarried() {
        Game g = manyRooms(8);
        for (int room = 0; room < 8; room++) {
            g.setWorth(object(g, COIN, 1, IN_ROOM, room), room + 1);
        }
        g.setWorth(object(g, COIN, 1, CARRIED, 0), 9);
        g.setWorth(object(g, COIN, 1, NOWHERE, 0), 5);
        for (int room = 0; room < 8; room++) {
            final int r = room;
            due(r + 1, () -> g.worth(r));
        }
        due(9, () -> g.worth(-1));
        due(INDEX, () -> g.worth(-2));
        due(0, () -> new Game().worth(-1));
    }

    @Sentence(of = "Promise 31: worth", says = "Throws `IndexOutOfBoundsException` if room is neither -1 nor a room")
    static void worthOfNoRoom() {
        refusedBeside(-1, 1, INDEX, Edges::made, (g, wrong) -> g.worth(wrong));
        refusedBeside(-1, 1, INDEX, Edges::played, (g, wrong) -> g.worth(wrong));
        refused(INDEX, Game::new, g -> g.worth(0));
        refused(INDEX, () -> manyRooms(8), g -> g.worth(8));
    }

    @Sentence(of = "Promise 32: litShare", says = "Returns the share of the rooms that are lit.")
    static void theShareOfTheRooms() {
        due(0.0f, () -> rooms(false).litShare());
        due(1.0f, () -> rooms(true).litShare());
        due(0.0f, () -> manyRooms(8).litShare());
        Game g = rooms(false, true);
        int lamp = lamp(g, 9, true, CARRIED, 0);
        due(0.5f, g::litShare);
        g.put(lamp, IN_ROOM, 0);
        due(1.0f, g::litShare);
        g.put(lamp, CARRIED, 0);
        g.begin(0);
        due(1.0f, g::litShare);
        says(g, "quench lamp", "done 1");
        due(0.5f, g::litShare);
    }

    @Sentence(of = "Promise 32: litShare", says = "Returns their number divided by the number of rooms, both as")
    static void asFloats() {
        for (int rooms = 1; rooms <= 8; rooms++) {
            for (int lit = 0; lit <= rooms; lit++) {
                boolean[] light = new boolean[rooms];
                for (int room = 0; room < lit; room++) {
                    light[room] = true;
                }
                due((float) lit / (float) rooms, () -> rooms(light).litShare());
            }
        }
    }

    @Sentence(of = "Promise 32: litShare", says = "Throws `ArithmeticException` if there are no rooms")
    static void noRooms() {
        refused(ARITHMETIC, Game::new, Game::litShare);
        refused(ARITHMETIC, () -> {
            Game g = new Game();
            g.addThing(LAMP, LIGHT, 0, 1);
            return g;
        }, Game::litShare);
        due(0.0f, () -> manyRooms(1).litShare());
    }

    @Sentence(of = "Promise 33: meanSize", says = "Returns the mean size of the things whose outer place is carried.")
    static void theMeanSize() {
        Game g = rooms(true);
        int box = openBox(g, CARRIED, 0);
        due(1.0, g::meanSize);
        object(g, COIN, 9, INSIDE, box);
        due(5.0, g::meanSize);
        object(g, COIN, 9, IN_ROOM, 0);
        object(g, COIN, 9, NOWHERE, 0);
        due(5.0, g::meanSize);
        g.begin(0);
        due(5.0, g::meanSize);
        says(g, "take coin", "done 0, 2 -1 0");
        says(g, "close box. take coin", "done 2");
        due(19.0 / 3.0, g::meanSize);
    }

    @Sentence(of = "Promise 33: meanSize", says = "Returns the load divided by their number, both as doubles.")
    static void asDoubles() {
        for (int things = 1; things <= 16; things++) {
            Game g = rooms(true);
            int load = 0;
            for (int thing = 0; thing < things; thing++) {
                int size = Math.min(9, 20 - load - (things - 1 - thing));
                object(g, COIN, Math.max(1, size), CARRIED, 0);
                load += Math.max(1, size);
            }
            due((double) load / (double) things, g::meanSize);
            due(load, () -> g.count(9));
        }
    }

    @Sentence(of = "Promise 33: meanSize", says = "Throws `ArithmeticException` if there are none")
    static void nothingIsCarried() {
        refused(ARITHMETIC, Game::new, Game::meanSize);
        refused(ARITHMETIC, Edges::made, Game::meanSize);
        refused(ARITHMETIC, Edges::played, Game::meanSize);
        Game g = oneOfEach();
        g.begin(0);
        says(g, "take coin", "done 1");
        due(1.0, g::meanSize);
        says(g, "drop coin", "done 1");
        due(ARITHMETIC, g::meanSize);
    }

    @Sentence(of = "Promise 37: letter", says = "Returns a letter of a noun.")
    static void theLetters() {
        for (int noun = BOX; noun <= BELL; noun++) {
            for (int index = 0; index < NOUNS[noun].length(); index++) {
                final int n = noun;
                final int i = index;
                due(NOUNS[n].charAt(i), () -> new Game().letter(n, i));
                due(NOUNS[n].charAt(i), () -> played().letter(n, i));
            }
        }
    }

    @Sentence(of = "Promise 37: letter", says = "- `noun`: the noun, 0 to 7")
    static void theFirstAndTheLastNoun() {
        due('b', () -> new Game().letter(0, 0));
        due('l', () -> new Game().letter(7, 3));
        due(ARGUMENT, () -> new Game().letter(-1, 0));
        due(ARGUMENT, () -> new Game().letter(8, 0));
    }

    @Sentence(of = "Promise 37: letter", says = "- `index`: the index of the letter, from 0")
    static void theFirstAndTheLastLetter() {
        for (int noun = BOX; noun <= BELL; noun++) {
            final int n = noun;
            int length = NOUNS[n].length();
            due(NOUNS[n].charAt(0), () -> new Game().letter(n, 0));
            due(NOUNS[n].charAt(length - 1), () -> new Game().letter(n, length - 1));
            due(INDEX, () -> new Game().letter(n, -1));
            due(INDEX, () -> new Game().letter(n, length));
        }
    }

    @Sentence(of = "Promise 37: letter", says = "Throws `IllegalArgumentException` if there is no such noun")
    static void noSuchNoun() {
        refusedBeside(BOX, BELL, ARGUMENT, Edges::made, (g, wrong) -> g.letter(wrong, 0));
        refusedBeside(BOX, BELL, ARGUMENT, Edges::played, (g, wrong) -> g.letter(wrong, 4));
        refusedBeside(BOX, BELL, ARGUMENT, Game::new, (g, wrong) -> g.letter(wrong, -1));
    }

    @Sentence(of = "Promise 37: letter", says = "Throws `IndexOutOfBoundsException` if there is no such letter")
    static void noSuchLetter() {
        for (int noun = BOX; noun <= BELL; noun++) {
            final int n = noun;
            int last = NOUNS[n].length() - 1;
            refusedBeside(0, last, INDEX, Edges::made, (g, wrong) -> g.letter(n, wrong));
        }
    }

    @Sentence(of = "Promise 38: count", says = "Returns a count.")
    static void theCounts() {
        counts(new Game(), 0, 0, 0, -1, -1, 0, 0, 0, 0, 0);
        counts(made(), 2, 5, 1, -1, -1, 3, 0, 0, 0, 0);
        Game g = played();
        counts(g, 2, 5, 1, 5, 1, 3, 5, 5, 2, 0);
        g.stop();
        counts(g, 2, 5, 1, -1, -1, 3, 0, 0, 0, 0);
    }

    @Sentence(of = "Promise 38: count", says = "- `what`: 0 for the rooms, 1 for the things, 2 for the daemons, 3 for")
    static void theGreatestCounts() {
        Game g = greatest();
        for (int daemon = 0; daemon < 6; daemon++) {
            g.addDaemon(MOVER, 15, 1, false);
        }
        g.connect(7, DOWN, 7, -1);
        counts(g, 8, 16, 6, -1, -1, 0, 0, 0, 0, 0);
        g.begin(7);
        counts(g, 8, 16, 6, 0, 7, 0, 0, 0, 0, 0);
        waits(g, 6);
        counts(g, 8, 16, 6, 6, 7, 0, 6, 6, 36, 0);
        waits(g, 6);
        g.type("abcdefghijklmnopqrstuvwxyz abcdefghijklmnopqrstuvwxyz abcdefghijklmnopqrstuvwxyz");
        counts(g, 8, 16, 6, 12, 7, 80, 10, 12, 40, 0);
        g.undo();
        counts(g, 8, 16, 6, 11, 7, 80, 9, 11, 40, 0);
        g.save();
        g.restore();
        counts(g, 8, 16, 6, 11, 7, 80, 0, 11, 40, 0);
        g.stop();
        counts(g, 8, 16, 6, -1, -1, 80, 0, 0, 0, 0);
    }

    @Sentence(of = "Promise 38: count", says = "- `what`: 0 for the rooms, 1 for the things, 2 for the daemons, 3 for")
    static void theGreatestLoad() {
        Game g = rooms(true);
        for (int size : new int[] {9, 9, 2}) {
            object(g, COIN, size, CARRIED, 0);
        }
        counts(g, 1, 3, 0, -1, -1, 0, 0, 0, 0, 20);
        g.begin(0);
        counts(g, 1, 3, 0, 0, 0, 0, 0, 0, 0, 20);
        says(g, "drop all. take all", "done 2");
        counts(g, 1, 3, 0, 2, 0, 0, 2, 2, 0, 20);
        g.undo();
        counts(g, 1, 3, 0, 1, 0, 0, 1, 1, 0, 0);
    }

    @Sentence(of = "Promise 38: count", says = "Throws `IllegalArgumentException` if what is not from 0 to 9")
    static void noSuchCount() {
        refusedBeside(0, 9, ARGUMENT, Game::new, (g, wrong) -> g.count(wrong));
        refusedBeside(0, 9, ARGUMENT, Edges::made, (g, wrong) -> g.count(wrong));
        refusedBeside(0, 9, ARGUMENT, Edges::played, (g, wrong) -> g.count(wrong));
    }
}
