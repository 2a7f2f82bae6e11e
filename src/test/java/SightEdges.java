/** The parts Light and Scope of the description, and the promises 25 to 27. */
final class SightEdges extends Edges {
    /** How a container is: closed, open, or closed and transparent. */
    private static final int[] WAYS_TO_BE = {-1, OPEN, TRANSPARENT};

    private static void set(Game g, int container, int flag) {
        if (flag >= 0) {
            g.setFlag(container, flag, true);
        }
    }

    /** A lit lamp, the thing 2, in a box that stands in a chest; both are open, transparent or closed. */
    private static Game lampInTwo(int chestFlag, int boxFlag, int place, int room) {
        Game g = rooms(false, false);
        int chest = holder(g, CONTAINER, BOOK, 3, 30);
        int box = holder(g, CONTAINER, BOX, 2, 30);
        lamp(g, 50, true, INSIDE, box);
        set(g, chest, chestFlag);
        set(g, box, boxFlag);
        g.put(box, INSIDE, chest);
        g.put(chest, place, room);
        return g;
    }

    private static void dueSight(Game g, int thing, boolean isVisible, boolean isReachable) {
        due(isVisible, () -> g.isVisible(thing));
        due(isReachable, () -> g.isReachable(thing));
    }

    @Sentence(of = "Description, Light", says = "A thing is shown in a room if it is in this room, or carried while")
    static void shownInARoom() {
        for (int chest : WAYS_TO_BE) {
            for (int box : WAYS_TO_BE) {
                boolean isShown = chest != -1 && box != -1;
                due(isShown, () -> lampInTwo(chest, box, IN_ROOM, 1).isLit(1));
                due(false, () -> lampInTwo(chest, box, IN_ROOM, 1).isLit(0));
                due(false, () -> lampInTwo(chest, box, CARRIED, 0).isLit(0));
                due(false, () -> lampInTwo(chest, box, NOWHERE, 0).isLit(0));
                Game g = lampInTwo(chest, box, CARRIED, 0);
                g.begin(1);
                due(isShown, () -> g.isLit(1));
                due(false, () -> g.isLit(0));
            }
        }
        Game direct = rooms(false, false);
        lamp(direct, 50, true, CARRIED, 0);
        direct.connect(0, NORTH, 1, -1);
        direct.begin(0);
        due(true, () -> direct.isLit(0));
        due(false, () -> direct.isLit(1));
        says(direct, "north", "done 1");
        due(false, () -> direct.isLit(0));
        due(true, () -> direct.isLit(1));
    }

    @Sentence(of = "Description, Light", says = "A thing is shown in a room if it is in this room, or carried while")
    static void shownOnSupporters() {
        Game g = rooms(false, false);
        int bell = holder(g, SUPPORTER, BELL, 1, 30);
        int book = holder(g, SUPPORTER, BOOK, 1, 30);
        int lamp = lamp(g, 50, true, UPON, book);
        g.put(book, UPON, bell);
        due(false, () -> g.isLit(0));
        due(NOWHERE, () -> g.put(bell, IN_ROOM, 0));
        due(true, () -> g.isLit(0));
        due(false, () -> g.isLit(1));
        int box = holder(g, CONTAINER, BOX, 1, 30);
        g.put(box, IN_ROOM, 1);
        g.put(book, INSIDE, box);
        due(false, () -> g.isLit(1));
        g.setFlag(box, TRANSPARENT, true);
        due(true, () -> g.isLit(1));
        due(book, () -> g.thing(lamp, 10));
    }

    /** Fifteen supporters and open containers, each in or on the one before, and a lit lamp in the last one. */
    private static Game deepLamp(int closed) {
        Game g = rooms(false);
        for (int thing = 0; thing < 15; thing++) {
            holder(g, thing % 2 == 0 ? CONTAINER : SUPPORTER, BOX, 1, 1);
            if (thing % 2 == 0 && thing != closed) {
                g.setFlag(thing, OPEN, true);
            }
        }
        lamp(g, 9, true, INSIDE, 14);
        for (int thing = 14; thing > 0; thing--) {
            g.put(thing, thing % 2 == 0 ? UPON : INSIDE, thing - 1);
        }
        g.put(0, IN_ROOM, 0);
        return g;
    }

    @Sentence(of = "Description, Light", says = "A thing is shown in a room if it is in this room, or carried while")
    static void shownThroughFifteen() {
        due(true, () -> deepLamp(-1).isLit(0));
        for (int closed = 0; closed < 15; closed += 2) {
            final int c = closed;
            due(false, () -> deepLamp(c).isLit(0));
        }
        Game g = deepLamp(-1);
        g.begin(0);
        dueSight(g, 15, true, true);
        says(g, "take lamp", "done 1");
        dueSight(g, 14, true, true);
    }

    @Sentence(of = "Description, Light", says = "A room is lit if it is light, or if a lit lamp is shown in it.")
    static void litByALitLamp() {
        due(true, () -> rooms(true).isLit(0));
        due(false, () -> rooms(false).isLit(0));
        Game g = rooms(false);
        int lamp = lamp(g, 2, false, IN_ROOM, 0);
        due(false, () -> g.isLit(0));
        g.setFlag(lamp, LIT, true);
        due(true, () -> g.isLit(0));
        g.begin(0);
        says(g, "wait", "done 1");
        due(true, () -> g.isLit(0));
        says(g, "wait", "done 1");
        due(false, () -> g.isLit(0));
    }

    @Sentence(of = "Description, Light", says = "A room is lit if it is light, or if a lit lamp is shown in it.")
    static void litByTheLastThing() {
        Game g = manyRooms(8);
        for (int thing = 0; thing < 15; thing++) {
            g.addThing(OBJECT, BOX, 0, 1);
            g.put(thing, IN_ROOM, 7);
        }
        int lamp = lamp(g, 9, true, IN_ROOM, 7);
        due(15, () -> lamp);
        for (int room = 0; room < 8; room++) {
            final int r = room;
            due(r == 7, () -> g.isLit(r));
        }
    }

    /** In room 0: a bell with a coin; in room 1: a rope; a door to room 1, and one from there; a key carried. */
    private static Game scene(boolean isLight) {
        Game g = rooms(isLight, true);
        int bell = holder(g, SUPPORTER, BELL, 1, 9);
        object(g, COIN, 1, UPON, bell);
        object(g, ROPE, 1, IN_ROOM, 1);
        object(g, KEY, 1, CARRIED, 0);
        g.addThing(DOOR, GATE, RED, 1);
        g.addThing(DOOR, GATE, OLD, 1);
        g.put(bell, IN_ROOM, 0);
        g.connect(0, EAST, 1, 4);
        g.connect(1, WEST, 0, 5);
        return g;
    }

    private static void dueVisible(Game g, boolean... visible) {
        for (int thing = 0; thing < visible.length; thing++) {
            final int t = thing;
            due(visible[t], () -> g.isVisible(t));
        }
    }

    @Sentence(of = "Description, Scope", says = "If the room of the player is lit, the things that are visible are")
    static void visibleInALitRoom() {
        Game g = scene(true);
        g.begin(0);
        dueVisible(g, true, true, false, true, true, false);
        says(g, "open red door. east", "done 2");
        dueVisible(g, false, false, true, true, false, true);
        Game oneDoorInSixDirections = rooms(true);
        oneDoorInSixDirections.addThing(DOOR, GATE, 0, 1);
        oneDoorInSixDirections.connect(0, DOWN, 0, 0);
        oneDoorInSixDirections.begin(0);
        dueVisible(oneDoorInSixDirections, true);
    }

    @Sentence(of = "Description, Scope", says = "If the room of the player is lit, the things that are visible are")
    static void theDoorOfEachExit() {
        Game g = rooms(true, true);
        for (int direction = NORTH; direction <= DOWN; direction++) {
            g.addThing(DOOR, GATE, 0, 1);
            g.connect(0, direction, 1, direction);
        }
        g.begin(0);
        dueVisible(g, true, true, true, true, true, true);
        due(63, () -> g.match("door"));
        g.stop();
        g.connect(0, WEST, -1, -1);
        g.begin(0);
        due(63 & ~(1 << WEST), () -> g.match("door"));
        g.stop();
        g.begin(1);
        due(0, () -> g.match("door"));
    }

    @Sentence(of = "Description, Scope", says = "Otherwise, they are the things that are carried and those that are in")
    static void visibleInTheDark() {
        Game g = scene(false);
        g.begin(0);
        dueVisible(g, false, false, false, true, false, false);
        for (int chest : WAYS_TO_BE) {
            for (int box : WAYS_TO_BE) {
                Game dark = lampInTwo(chest, box, CARRIED, 0);
                dark.setFlag(2, LIT, false);
                dark.begin(0);
                dueVisible(dark, true, chest != -1, chest != -1 && box != -1);
                Game there = lampInTwo(chest, box, IN_ROOM, 0);
                there.setFlag(2, LIT, false);
                there.begin(0);
                dueVisible(there, false, false, false);
            }
        }
        Game onSupporter = rooms(false);
        int bell = holder(onSupporter, SUPPORTER, BELL, 1, 9);
        object(onSupporter, COIN, 1, UPON, bell);
        onSupporter.put(bell, CARRIED, 0);
        onSupporter.begin(0);
        dueVisible(onSupporter, true, true);
    }

    @Sentence(of = "Description, Scope", says = "A thing is reachable if it is visible, and each container in which")
    static void reachable() {
        for (int chest : WAYS_TO_BE) {
            for (int box : WAYS_TO_BE) {
                for (int place : new int[] {IN_ROOM, CARRIED, NOWHERE}) {
                    Game g = lampInTwo(chest, box, place, 0);
                    g.setFlag(2, LIT, false);
                    g.addRoom(true);
                    g.put(0, place, 2);
                    g.begin(2);
                    boolean isThere = place != NOWHERE;
                    dueSight(g, 0, isThere, isThere);
                    dueSight(g, 1, isThere && chest != -1, isThere && chest == OPEN);
                    dueSight(g, 2, isThere && chest != -1 && box != -1, isThere && chest == OPEN && box == OPEN);
                }
            }
        }
        Game far = scene(true);
        far.begin(0);
        dueSight(far, 2, false, false);
        dueSight(far, 4, true, true);
        dueSight(far, 5, false, false);
    }

    @Sentence(of = "Description, Scope", says = "A thing is reachable if it is visible, and each container in which")
    static void reachableThroughSupporters() {
        Game g = rooms(true);
        int glass = holder(g, CONTAINER, BOX, 1, 9);
        int bell = holder(g, SUPPORTER, BELL, 1, 9);
        int coin = object(g, COIN, 1, UPON, bell);
        g.setFlag(glass, TRANSPARENT, true);
        g.put(bell, INSIDE, glass);
        g.put(glass, IN_ROOM, 0);
        g.begin(0);
        dueSight(g, glass, true, true);
        dueSight(g, bell, true, false);
        dueSight(g, coin, true, false);
        says(g, "open box", "done 1");
        dueSight(g, bell, true, true);
        dueSight(g, coin, true, true);
    }

    @Sentence(of = "Promise 25: isLit", says = "Returns whether a room is lit.")
    static void isLit() {
        Game g = oneOfEach();
        due(true, () -> g.isLit(0));
        due(false, () -> g.isLit(1));
        g.setFlag(LAMP, LIT, true);
        due(false, () -> g.isLit(1));
        g.put(LAMP, IN_ROOM, 1);
        due(true, () -> g.isLit(1));
    }

    @Sentence(of = "Promise 25: isLit", says = "While the world is not played, things that are carried are shown in no")
    static void carriedLampsLightNothingBeforePlay() {
        Game g = manyRooms(8);
        lamp(g, 9, true, CARRIED, 0);
        for (int room = 0; room < 8; room++) {
            final int r = room;
            due(false, () -> g.isLit(r));
        }
        due(0.0f, g::litShare);
        g.begin(7);
        due(true, () -> g.isLit(7));
        due(false, () -> g.isLit(0));
        g.stop();
        due(false, () -> g.isLit(7));
        due(false, () -> g.isLit(0));
    }

    @Sentence(of = "Promise 25: isLit", says = "Throws `IndexOutOfBoundsException` if there is no such room")
    static void isLitNoSuchRoom() {
        refusedBeside(0, 1, INDEX, Edges::made, (g, wrong) -> g.isLit(wrong));
        refusedBeside(0, 1, INDEX, Edges::played, (g, wrong) -> g.isLit(wrong));
        refused(INDEX, () -> manyRooms(8), g -> g.isLit(8));
        refused(INDEX, Game::new, g -> g.isLit(0));
    }

    @Sentence(of = "Promise 26: isVisible", says = "Returns whether a thing is visible.")
    static void isVisible() {
        Game g = deepLamp(4);
        g.begin(0);
        for (int thing = 0; thing < 16; thing++) {
            final int t = thing;
            due(false, () -> g.isVisible(t));
        }
        Game light = rooms(true);
        for (int thing = 0; thing < 16; thing++) {
            light.addThing(OBJECT, BOX, 0, 1);
            light.put(thing, thing % 2 == 0 ? IN_ROOM : NOWHERE, 0);
        }
        light.begin(0);
        for (int thing = 0; thing < 16; thing++) {
            final int t = thing;
            due(t % 2 == 0, () -> light.isVisible(t));
        }
    }

    @Sentence(of = "Promise 26: isVisible", says = "Throws `IndexOutOfBoundsException` if there is no such thing")
    static void isVisibleNoSuchThing() {
        refusedBeside(0, DOOR, INDEX, Edges::made, (g, wrong) -> g.isVisible(wrong));
        refusedBeside(0, DOOR, INDEX, Edges::played, (g, wrong) -> g.isVisible(wrong));
        refused(INDEX, Game::new, g -> g.isVisible(0));
    }

    @Sentence(of = "Promise 26: isVisible", says = "Throws `IllegalStateException` if the world is not played")
    static void isVisibleWhileNotPlayed() {
        refused(STATE, Edges::made, g -> g.isVisible(OBJECT));
        refused(STATE, Edges::made, g -> g.isVisible(DOOR));
        due(true, () -> {
            Game g = made();
            g.begin(0);
            return g.isVisible(DOOR);
        });
    }

    @Sentence(of = "Promise 27: isReachable", says = "Returns whether a thing is reachable.")
    static void isReachable() {
        for (int transparent = 0; transparent < 15; transparent += 2) {
            Game g = deepLamp(transparent);
            g.setFlag(transparent, TRANSPARENT, true);
            g.begin(0);
            for (int thing = 0; thing < 16; thing++) {
                final int t = thing;
                boolean isOutside = t <= transparent;
                dueSight(g, t, true, isOutside);
            }
        }
    }

    @Sentence(of = "Promise 27: isReachable", says = "Throws `IndexOutOfBoundsException` if there is no such thing")
    static void isReachableNoSuchThing() {
        refusedBeside(0, DOOR, INDEX, Edges::made, (g, wrong) -> g.isReachable(wrong));
        refusedBeside(0, DOOR, INDEX, Edges::played, (g, wrong) -> g.isReachable(wrong));
        refused(INDEX, Game::new, g -> g.isReachable(0));
    }

    @Sentence(of = "Promise 27: isReachable", says = "Throws `IllegalStateException` if the world is not played")
    static void isReachableWhileNotPlayed() {
        refused(STATE, Edges::made, g -> g.isReachable(OBJECT));
        refused(STATE, Edges::made, g -> g.isReachable(DOOR));
    }
}
