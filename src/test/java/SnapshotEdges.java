import java.util.List;

/** Promises 39 and 40, the part Exceptions of the description, and the number of calls that is promised. */
final class SnapshotEdges extends Edges {
    @Sentence(of = "What it is", says = "An object is used for at most 512 calls after it has been made;")
    static void theLastCall() {
        Game g = rooms(true);
        g.connect(0, UP, 0, -1);
        g.begin(0);
        int turns = 0;
        // Twenty parts of a text, and the call that reads it, make twenty turns: there cannot be more of them.
        while (g.calls() + 21 <= Game.CALLS - 4) {
            g.goUpTwentyTimes();
            turns += 20;
        }
        final int all = turns;
        due(480, () -> all);
        while (g.calls() < Game.CALLS - 4) {
            g.append('x');
        }
        due(all, () -> g.count(7));
        due(9, g::undo);
        due(all - 1, () -> g.count(3));
        due(Game.CALLS - 1, g::calls);
        due(true, g::isReplayed);
        due(Game.CALLS, g::calls);
    }

    @Sentence(of = "What it is", says = "An object is used for at most 512 calls after it has been made;")
    static void theLastCallOfManyKinds() {
        Use[] lastCalls = {g -> g.count(3), g -> g.foresee(), g -> g.command(), g -> g.outerLater(0, 30), g -> g.undo(),
            g -> g.save(), g -> g.stop(), g -> g.event(39), g -> g.daemon(0, 4), g -> g.isReplayed()};
        Object[] want = {251, 1, 1, 0, 9, 1, 251, 200, 251, true};
        for (int i = 0; i < lastCalls.length; i++) {
            Use last = lastCalls[i];
            Game g = rooms(true);
            object(g, COIN, 1, IN_ROOM, 0);
            g.connect(0, UP, 0, -1);
            g.addDaemon(MOVER, 0, 1, false);
            g.begin(0);
            waits(g, 251);
            while (g.calls() < Game.CALLS - 2) {
                g.count(0);
            }
            g.append(Check.packed("wait"));
            due(want[i], () -> last.in(g));
            due(Game.CALLS, g::calls);
        }
    }

    @Sentence(of = "Description, Exceptions", says = "A call that throws an exception leaves the state unchanged,")
    static void refusedCallsLeaveTheState() {
        Use[] wrong = {g -> g.connect(9, 0, 0, -1), g -> g.addThing(OBJECT, BOX, 0, 0), g -> g.setCapacity(9, 0),
            g -> g.setFlag(OBJECT, OPEN, true), g -> g.setKey(OBJECT, 0), g -> g.setFuel(LAMP, 100),
            g -> g.setWorth(OBJECT, 10), g -> g.put(OBJECT, INSIDE, SUPPORTER),
            g -> g.addDaemon(MOVER, OBJECT, 21, true), g -> g.begin(2), g -> g.append(0), g -> g.foresee(),
            g -> g.refusal(3), g -> g.thing(5, 0), g -> g.exit(0, 6),
            g -> g.door(0, 6), g -> g.isLit(2), g -> g.isVisible(5), g -> g.isReachable(5), g -> g.content(5, 0, 0),
            g -> g.outer(5), g -> g.distance(0, 2), g -> g.worth(2), g -> g.meanSize(), g -> g.daemon(1, 0),
            g -> g.event(40), g -> g.outerLater(OBJECT, 31), g -> g.letter(8, 0), g -> g.count(10)};
        Class<?>[] want = {INDEX, ARGUMENT, INDEX, KIND, KIND, ARGUMENT, ARGUMENT, KIND, ARGUMENT, INDEX, ARGUMENT,
            STATE, ARGUMENT, INDEX, ARGUMENT, ARGUMENT, INDEX, INDEX, INDEX, ARGUMENT, INDEX, INDEX, INDEX, ARITHMETIC, INDEX,
            INDEX, ARGUMENT, ARGUMENT, ARGUMENT};
        for (int i = 0; i < wrong.length; i++) {
            refused(want[i], Edges::made, wrong[i]);
            boolean isRead = want[i] == STATE;
            refused(isRead ? ARGUMENT : want[i], Edges::played, wrong[i]);
        }
        // It is stated otherwise for the text of command and matching.
        for (Use read : new Use[] {Game::command, Game::matching}) {
            Game touched = played();
            List<Object> before = touched.world();
            due(ARGUMENT, () -> read.in(touched));
            due(0, () -> touched.count(5));
            due(true, () -> touched.faultPosition() > 0);
            due(9, () -> touched.refusal(0));
            same("the world", before, touched.world());
        }
    }

    @Sentence(of = "Description, Exceptions", says = "If several conditions of a method are fulfilled, the one that")
    static void theFirstConditionCounts() {
        refused(INDEX, Edges::played, g -> g.connect(2, 6, 0, OBJECT));
        refused(ARGUMENT, Edges::played, g -> g.connect(0, 6, 0, OBJECT));
        refused(ARGUMENT, Edges::played, g -> g.addThing(5, 0, 0, 1));
        refused(INDEX, Edges::played, g -> g.setCapacity(5, 31));
        refused(ARGUMENT, Edges::played, g -> g.setCapacity(OBJECT, 31));
        refused(KIND, Edges::played, g -> g.setCapacity(OBJECT, 30));
        refused(INDEX, Edges::played, g -> g.setFlag(5, 5, true));
        refused(ARGUMENT, Edges::played, g -> g.setFlag(OBJECT, 5, true));
        refused(KIND, Edges::played, g -> g.setFlag(OBJECT, LIT, true));
        refused(INDEX, Edges::played, g -> g.setKey(OBJECT, 5));
        refused(KIND, Edges::played, g -> g.setKey(OBJECT, 0));
        refused(INDEX, Edges::played, g -> g.setFuel(5, 100));
        refused(ARGUMENT, Edges::played, g -> g.setFuel(OBJECT, 100));
        refused(KIND, Edges::played, g -> g.setFuel(OBJECT, 0));
        refused(INDEX, Edges::played, g -> g.setWorth(5, 10));
        refused(ARGUMENT, Edges::played, g -> g.setWorth(OBJECT, 10));
        refused(INDEX, Edges::played, g -> g.put(5, 5, 0));
        refused(ARGUMENT, Edges::played, g -> g.put(DOOR, 5, 0));
        refused(KIND, Edges::played, g -> g.put(DOOR, IN_ROOM, 0));
        refused(INDEX, Edges::played, g -> g.addDaemon(4, 5, 0, true));
        refused(ARGUMENT, Edges::played, g -> g.addDaemon(CLOSER, OBJECT, 0, true));
        refused(KIND, Edges::played, g -> g.addDaemon(CLOSER, OBJECT, 1, true));
        refused(INDEX, Edges::played, g -> g.begin(2));
        refused(STATE, Edges::made, Game::command);
        refused(STATE, Edges::made, Game::foresee);
        refused(STATE, Edges::made, Game::matching);
        refused(INDEX, Edges::made, g -> g.thing(5, 12));
        refused(INDEX, Edges::made, g -> g.exit(2, 6));
        refused(ARGUMENT, Edges::made, g -> g.exit(0, 6));
        refused(INDEX, Edges::made, g -> g.door(2, 6));
        refused(ARGUMENT, Edges::made, g -> g.door(0, 6));
        refused(INDEX, Edges::made, g -> g.isVisible(5));
        refused(INDEX, Edges::made, g -> g.isReachable(5));
        refused(ARGUMENT, Edges::made, g -> g.content(5, 0, -2));
        refused(INDEX, Edges::made, g -> g.distance(0, 2));
        refused(INDEX, Edges::made, g -> g.daemon(1, 6));
        refused(INDEX, Edges::made, g -> g.outerLater(5, 31));
        refused(ARGUMENT, Edges::made, g -> g.outerLater(OBJECT, 31));
        refused(ARGUMENT, Edges::made, g -> g.letter(8, -1));
    }

    @Sentence(of = "Description, Details", says = "A snapshot contains the play with its turns, and what stop brings")
    static void whatASnapshotContains() {
        Game g = oneOfEach();
        List<Object> beforePlay = g.world();
        g.begin(0);
        g.say("take coin. wait. open box. put coin in box");
        List<Object> inPlay = g.world();
        g.save();
        g.say("take all. wait");
        g.stop();
        g.put(OBJECT, NOWHERE, 0);
        g.addRoom(true);
        g.begin(2);
        g.say("wait. wait. wait. wait. wait. wait");
        g.restore();
        same("the world", inPlay, g.world());
        due(4, () -> g.count(7));
        due(true, g::isReplayed);
        due(4, g::stop);
        same("the world", beforePlay, g.world());
    }

    /** All that there can be of everything, with few calls. */
    private static Game everything() {
        Game g = manyRooms(8);
        for (int thing = 0; thing < 16; thing++) {
            g.addThing(thing == 14 ? LAMP : thing == 15 ? DOOR : CONTAINER, thing % 8, thing % 4, thing % 9 + 1);
        }
        g.setCapacity(0, 30);
        g.setCapacity(1, 20);
        g.setFlag(0, OPEN, true);
        g.setFlag(0, FIXED, true);
        g.setFlag(1, LOCKED, true);
        g.setFlag(2, TRANSPARENT, true);
        g.setFlag(15, OPEN, true);
        g.setKey(1, 15);
        g.setFuel(14, 99);
        g.setFlag(14, LIT, true);
        g.setWorth(14, 9);
        g.put(0, IN_ROOM, 7);
        g.put(1, IN_ROOM, 0);
        g.put(2, INSIDE, 0);
        g.put(3, INSIDE, 1);
        g.put(14, CARRIED, 0);
        g.connect(7, DOWN, 0, 15);
        g.connect(0, NORTH, 7, -1);
        for (int daemon = 0; daemon < 6; daemon++) {
            g.addDaemon(daemon % 2 == 0 ? MOVER : CLOSER, daemon % 2 == 0 ? 1 : 15, daemon + 1, daemon > 3);
        }
        return g;
    }

    @Sentence(of = "Promise 39: save", says = "Saves everything but the text buffer, the fault position, the refusal")
    static void savesEverything() {
        Game saved = everything();
        saved.save();
        for (int thing = 0; thing < 16; thing++) {
            saved.setWorth(thing, 3);
        }
        saved.setCapacity(1, 30);
        saved.setFlag(0, OPEN, false);
        saved.setFlag(1, LOCKED, false);
        saved.setKey(1, -1);
        saved.setFuel(14, 1);
        saved.put(2, NOWHERE, 0);
        saved.put(0, IN_ROOM, 2);
        saved.connect(7, DOWN, -1, -1);
        saved.connect(3, UP, 4, 15);
        saved.restore();
        same("the world", everything().world(), saved.world());
        Game alsoPlayed = everything();
        Game unsaved = everything();
        for (Game g : new Game[] {alsoPlayed, unsaved}) {
            g.begin(0);
            g.say("wait. wait. wait. wait. wait. wait. wait");
        }
        alsoPlayed.save();
        alsoPlayed.say("wait. wait. quench old lamp");
        alsoPlayed.restore();
        same("the world", unsaved.world(), alsoPlayed.world());
    }

    @Sentence(of = "Promise 39: save", says = "Saves everything but the text buffer, the fault position, the refusal")
    static void butWhatIsNotSaved() {
        Game g = oneOfEach();
        g.begin(0);
        g.say("wait. down");
        g.say("lox");
        g.type("wa");
        g.save();
        due(1, () -> g.count(6));
        due(2, () -> g.count(5));
        g.say("it. wait. take rope");
        g.say("wait. take bell. take bell");
        g.say("waix");
        g.type("looks");
        g.restore();
        counts(g, 2, 5, 1, 1, 0, 5, 0, 1, 0, 0);
        due(3, g::faultPosition);
        due(5, () -> g.refusal(0));
        due(-1, () -> g.refusal(1));
        due(2, () -> g.refusal(2));
        due(STATE, g::undo);
    }

    @Sentence(of = "Promise 39: save", says = "Saves everything but the text buffer, the fault position, the refusal")
    static void inPlaceOfAnEarlierOne() {
        Game g = rooms(true);
        g.save();
        g.addRoom(true);
        g.save();
        g.addRoom(true);
        g.restore();
        due(2, () -> g.count(0));
        g.begin(0);
        g.say("wait. wait");
        g.save();
        g.stop();
        g.restore();
        due(2, () -> g.count(3));
        g.stop();
        g.save();
        g.begin(1);
        g.restore();
        due(-1, () -> g.count(3));
    }

    @Sentence(of = "Promise 39: save", says = "Returns the number of things.")
    static void saveTellsTheThings() {
        Game g = new Game();
        due(0, g::save);
        for (int thing = 1; thing <= 16; thing++) {
            final int n = thing;
            g.addThing(OBJECT, BOX, 0, 1);
            due(n, g::save);
        }
        due(5, () -> played().save());
    }

    @Sentence(of = "Promise 40: restore", says = "Restores what was saved; the snapshot is kept.")
    static void restoresAgainAndAgain() {
        Game g = oneOfEach();
        g.begin(0);
        g.say("take coin. wait. wait");
        g.save();
        List<Object> saved = g.world();
        for (String text : new String[] {"drop coin. wait", "open door. north. drop all"}) {
            g.say(text);
            due(5, g::restore);
            same("the world", saved, g.world());
        }
        g.stop();
        g.addThing(OBJECT, BOX, 0, 1);
        due(5, g::restore);
        same("the world", saved, g.world());
    }

    @Sentence(of = "Promise 40: restore", says = "Restores what was saved; the snapshot is kept.")
    static void restoresAnEmptyWorld() {
        Game g = new Game();
        g.save();
        g.addRoom(true);
        lamp(g, 9, true, CARRIED, 0);
        g.addDaemon(MOVER, 0, 1, false);
        g.begin(0);
        waits(g, 3);
        due(0, g::restore);
        counts(g, 0, 0, 0, -1, -1, 0, 0, 0, 0, 0);
        due(INDEX, () -> g.begin(0));
        due(INDEX, () -> g.event(0));
        due(ARITHMETIC, g::litShare);
        due(0, () -> g.addRoom(false));
        due(0, () -> g.addThing(LAMP, LIGHT, 0, 1));
        due(0, () -> g.addDaemon(SWITCHER, 0, 1, false));
        due(0, () -> g.thing(0, 6));
        due(0, () -> g.thing(0, 8));
        due(0, () -> g.count(9));
        due(false, () -> g.isLit(0));
    }

    @Sentence(of = "Promise 40: restore", says = "No turn can be undone then.")
    static void nothingToUndoThen() {
        Game g = oneOfEach();
        g.begin(0);
        g.say("wait. wait. wait");
        g.save();
        due(3, () -> g.count(6));
        g.restore();
        due(0, () -> g.count(6));
        due(STATE, g::undo);
        due(3, () -> g.count(7));
        g.say("wait");
        due(0, g::undo);
        due(STATE, g::undo);
        due(3, () -> g.count(3));
    }

    @Sentence(of = "Promise 40: restore", says = "Returns the number of things.")
    static void restoreTellsTheThings() {
        for (int things = 0; things <= 16; things += 4) {
            Game g = new Game();
            for (int thing = 0; thing < things; thing++) {
                g.addThing(OBJECT, BOX, 0, 1);
            }
            g.save();
            if (things < 16) {
                g.addThing(OBJECT, BOX, 0, 1);
            }
            due(things, g::restore);
            due(things, () -> g.count(1));
        }
    }

    @Sentence(of = "Promise 40: restore", says = "Throws `IllegalStateException` if there is no snapshot")
    static void noSnapshot() {
        refused(STATE, Game::new, Game::restore);
        refused(STATE, Edges::oneOfEach, Game::restore);
        refused(STATE, () -> {
            Game g = oneOfEach();
            g.begin(0);
            g.say("wait. wait");
            return g;
        }, Game::restore);
        due(0, () -> made().restore());
    }
}
