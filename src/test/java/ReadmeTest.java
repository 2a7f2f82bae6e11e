import java.nio.file.Files;
import java.nio.file.Path;
import java.util.ArrayList;
import java.util.List;

/** The examples of README.md: its lines stand here in the same order, and answer what their comments tell. */
public final class ReadmeTest {
    public static void main(String[] args) throws Exception {
        example();
        linesStandHere();
        Check.end();
    }

    private static void example() {
        AdventureWorld world = new AdventureWorld();
        int hall = world.addRoom(true);                // a light room
        int cellar = world.addRoom(false);             // a dark one
        int gate = world.addThing(4, 3, 2, 1);         // a door, called "old door", of the size 1
        int lamp = world.addThing(3, 1, 0, 2);         // a lamp, called "lamp", of the size 2
        int chest = world.addThing(1, 0, 1, 5);        // a container, called "red box"
        int coin = world.addThing(0, 4, 0, 1);         // an object, called "coin"
        int key = world.addThing(0, 2, 0, 1);
        world.connect(hall, 5, cellar, gate);          // down, through the door
        world.connect(cellar, 4, hall, gate);          // and up again: an exit leads in one direction only
        world.setFuel(lamp, 20);
        world.setCapacity(chest, 10);
        world.setFlag(chest, 2, true);                 // flags: 0 fixed, 1 open, 2 locked, 3 transparent, 4 lit
        world.setKey(chest, key);
        world.setWorth(coin, 9);
        world.put(lamp, 3, 0);                         // places: 0 in a room, 1 in a container, 2 on a supporter,
        world.put(key, 0, hall);                       //     3 carried, 4 nowhere, as each thing is at first
        world.put(chest, 0, cellar);
        world.put(coin, 1, chest);
        world.addDaemon(0, gate, 6, false);            // closes the door each sixth turn
        world.begin(hall);                             // 5: the number of things
        play(world, cellar, chest);
        bringBack(world, coin);
    }

    static void type(AdventureWorld world, String text) {
        for (int start = 0; start < text.length(); start += 4) {
            int packed = 0;
            for (int i = start; i < start + 4 && i < text.length(); i++) {
                packed = packed << 8 | text.charAt(i);
            }
            world.append(packed);
        }
    }

    private static void play(AdventureWorld world, int cellar, int chest) {
        type(world, "open door. light lamp. take key. down. unlock box with key");
        int done = world.command();                    // 5
        Check.dueValue("command", 5, done);
        int clock = world.count(3);                    // 5
        Check.dueValue("clock", 5, clock);
        int room = world.count(4);                     // 1: the player is in the cellar
        Check.dueValue("room", 1, room);
        boolean isLit = world.isLit(cellar);           // true: the lamp is carried there
        Check.dueValue("isLit", true, isLit);
        readOnly(world, chest);
        refused(world);
    }

    private static void readOnly(AdventureWorld world, int chest) {
        int done;
        type(world, "wait. take coin");
        int foreseen = world.foresee();                // 1: the coin is in a closed box
        Check.dueValue("foresee", 1, foreseen);
        type(world, ". open box");
        done = world.command();                        // 1
        Check.dueValue("command", 1, done);
        type(world, "red box");
        int matching = world.matching();               // 4: the bit of thing 2, 1 << chest
        Check.dueValue("matching", 4, matching);
        Check.dueValue("the chest", 1 << chest, matching);
    }

    private static void refused(AdventureWorld world) {
        type(world, "wait. open the box");
        try {
            world.command();
        } catch (IllegalArgumentException e) {
            int position = world.faultPosition();      // 11: neither a noun nor an adjective begins with "t"
            Check.dueValue("faultPosition", 11, position);
        }
        Check.dueValue("the fault is told", 11, world.faultPosition());
        int done;
        type(world, "open box. take coin. up. wait");
        done = world.command();                        // 2
        Check.dueValue("command", 2, done);
        int reason = world.refusal(0);                 // 6: a thing is locked, closed or open that must not be
        Check.dueValue("reason", 6, reason);
        int concerned = world.refusal(1);              // 0: the door, which the daemon has closed
        Check.dueValue("concerned", 0, concerned);
        int index = world.refusal(2);                  // 2: "up"
        Check.dueValue("index", 2, index);
        int event = world.event(0);                    // 100: a daemon closed thing 0
        Check.dueValue("event", 100, event);
    }

    private static void bringBack(AdventureWorld world, int coin) {
        int done;
        int clock;
        int left = world.undo();                       // 7: the coin is in the box again
        Check.dueValue("undo", 7, left);
        world.save();
        type(world, "take coin. drop all");
        done = world.command();                        // 2
        Check.dueValue("command", 2, done);
        world.restore();
        int place = world.thing(coin, 9);              // 1: in a container, as when it was saved
        Check.dueValue("place", 1, place);
        left = world.count(6);                         // 0: no turn can be undone
        Check.dueValue("turns", 0, left);
        boolean isReplayed = world.isReplayed();       // true: the same commands lead to the same world
        Check.dueValue("isReplayed", true, isReplayed);
        clock = world.stop();                          // 7
        Check.dueValue("stop", 7, clock);
    }

    private static List<String> shownLines() throws Exception {
        List<String> shown = new ArrayList<>();
        boolean isShown = false;
        for (String line : Files.readAllLines(Path.of("README.md"))) {
            if (line.startsWith("```")) {
                isShown = line.equals("```java");
            } else if (isShown) {
                shown.add(line.strip());
            }
        }
        return shown;
    }

    private static void linesStandHere() throws Exception {
        List<String> shown = shownLines();
        Check.dueValue("README.md shows examples", true, shown.size() > 40);
        int found = 0;
        for (String line : Files.readAllLines(Path.of("src/test/java/ReadmeTest.java"))) {
            if (found < shown.size() && line.strip().equals(shown.get(found))) {
                found++;
            }
        }
        Check.dueValue("the lines of README.md stand here, up to: "
                + (found < shown.size() ? shown.get(found) : "the end"), shown.size(), found);
    }
}
