import java.lang.reflect.InvocationTargetException;
import java.lang.reflect.Method;
import java.util.ArrayList;
import java.util.Arrays;
import java.util.HashMap;
import java.util.List;
import java.util.Map;

/** A world whose calls are told and counted: a test uses no object for more calls than the document promises. */
final class Game {
    static final int CALLS = 512;

    private static final Map<String, Method> METHODS = methods();

    private static String latestCall = "";

    private final AdventureWorld world = new AdventureWorld();
    private final List<String> names = new ArrayList<>();
    private final List<Object[]> rows = new ArrayList<>();

    private static Map<String, Method> methods() {
        Map<String, Method> all = new HashMap<>();
        for (Method m : AdventureWorld.class.getMethods()) {
            all.put(m.getName(), m);
        }
        return all;
    }

    /** The call that was made last, of any game. */
    static String latestCall() {
        return latestCall;
    }

    int calls() {
        return names.size();
    }

    private AdventureWorld call(String name, Object... arguments) {
        keep(name, arguments);
        String row = Arrays.toString(arguments);
        latestCall = name + "(" + row.substring(1, row.length() - 1) + ")";
        return world;
    }

    private void keep(String name, Object[] arguments) {
        if (calls() >= CALLS) {
            throw new AssertionError("a test uses an object for more than 512 calls");
        }
        names.add(name);
        rows.add(arguments);
    }

    /** A new world in which the same calls were made: a picture takes hundreds of calls, and is asked of a twin. */
    Game twin() {
        Game twin = new Game();
        for (int i = 0; i < calls(); i++) {
            twin.repeat(names.get(i), rows.get(i));
        }
        return twin;
    }

    private void repeat(String name, Object[] arguments) {
        keep(name, arguments);
        try {
            METHODS.get(name).invoke(world, arguments);
        } catch (InvocationTargetException e) {
            // A call that was refused is refused here, too.
            return;
        } catch (IllegalAccessException e) {
            throw new AssertionError(e);
        }
    }

    int addRoom(boolean isLight) {
        return call("addRoom", isLight).addRoom(isLight);
    }

    int connect(int room, int direction, int to, int door) {
        return call("connect", room, direction, to, door).connect(room, direction, to, door);
    }

    int addThing(int kind, int noun, int adjective, int size) {
        return call("addThing", kind, noun, adjective, size).addThing(kind, noun, adjective, size);
    }

    int setCapacity(int thing, int capacity) {
        return call("setCapacity", thing, capacity).setCapacity(thing, capacity);
    }

    boolean setFlag(int thing, int flag, boolean on) {
        return call("setFlag", thing, flag, on).setFlag(thing, flag, on);
    }

    int setKey(int thing, int key) {
        return call("setKey", thing, key).setKey(thing, key);
    }

    int setFuel(int thing, int fuel) {
        return call("setFuel", thing, fuel).setFuel(thing, fuel);
    }

    int setWorth(int thing, int worth) {
        return call("setWorth", thing, worth).setWorth(thing, worth);
    }

    int put(int thing, int place, int target) {
        return call("put", thing, place, target).put(thing, place, target);
    }

    int addDaemon(int kind, int thing, int period, boolean once) {
        return call("addDaemon", kind, thing, period, once).addDaemon(kind, thing, period, once);
    }

    int begin(int room) {
        return call("begin", room).begin(room);
    }

    int stop() {
        return call("stop").stop();
    }

    int append(int packed) {
        return call("append", packed).append(packed);
    }

    int command() {
        return call("command").command();
    }

    int foresee() {
        return call("foresee").foresee();
    }

    int matching() {
        return call("matching").matching();
    }

    int faultPosition() {
        return call("faultPosition").faultPosition();
    }

    int refusal(int what) {
        return call("refusal", what).refusal(what);
    }

    int undo() {
        return call("undo").undo();
    }

    boolean isReplayed() {
        return call("isReplayed").isReplayed();
    }

    int thing(int thing, int what) {
        return call("thing", thing, what).thing(thing, what);
    }

    int exit(int room, int direction) {
        return call("exit", room, direction).exit(room, direction);
    }

    int door(int room, int direction) {
        return call("door", room, direction).door(room, direction);
    }

    boolean isLit(int room) {
        return call("isLit", room).isLit(room);
    }

    boolean isVisible(int thing) {
        return call("isVisible", thing).isVisible(thing);
    }

    boolean isReachable(int thing) {
        return call("isReachable", thing).isReachable(thing);
    }

    int content(int place, int target, int index) {
        return call("content", place, target, index).content(place, target, index);
    }

    int outer(int thing) {
        return call("outer", thing).outer(thing);
    }

    int distance(int from, int to) {
        return call("distance", from, to).distance(from, to);
    }

    int worth(int room) {
        return call("worth", room).worth(room);
    }

    float litShare() {
        return call("litShare").litShare();
    }

    double meanSize() {
        return call("meanSize").meanSize();
    }

    int daemon(int daemon, int what) {
        return call("daemon", daemon, what).daemon(daemon, what);
    }

    int event(int index) {
        return call("event", index).event(index);
    }

    int outerLater(int thing, int turns) {
        return call("outerLater", thing, turns).outerLater(thing, turns);
    }

    char letter(int noun, int index) {
        return call("letter", noun, index).letter(noun, index);
    }

    int count(int what) {
        return call("count", what).count(what);
    }

    int save() {
        return call("save").save();
    }

    int restore() {
        return call("restore").restore();
    }

    void type(String text) {
        for (int i = 0; i < text.length(); i += 4) {
            append(Check.packed(text.substring(i, Math.min(i + 4, text.length()))));
        }
    }

    /** Types a text and has it read: "done 2"; "done 1, 7 3 1" with the refusal; or "fault 6". */
    String say(String text) {
        type(text);
        try {
            int done = command();
            String refusal = refusal(0) + " " + refusal(1) + " " + refusal(2);
            latestCall = "\"" + text + "\"";
            return "done " + done + (refusal.equals("0 -1 -1") ? "" : ", " + refusal);
        } catch (IllegalArgumentException e) {
            int position = faultPosition();
            latestCall = "\"" + text + "\"";
            return "fault " + position;
        }
    }

    /** Goes up twenty times, with the fewest calls. */
    void goUpTwentyTimes() {
        for (int i = 0; i < 20; i++) {
            append(Check.packed(i < 19 ? "up. " : "up"));
        }
        command();
    }

    /** Types a text and has it read as a noun phrase. */
    int match(String text) {
        type(text);
        return matching();
    }

    /** The events that are kept, "101 203". */
    String events() {
        StringBuilder all = new StringBuilder();
        int kept = count(8);
        for (int i = 0; i < kept; i++) {
            all.append(i == 0 ? "" : " ").append(event(i));
        }
        return all.toString();
    }

    /** All that the calls tell of the world itself. */
    List<Object> world() {
        List<Object> all = new ArrayList<>();
        for (int what : new int[] {0, 1, 2, 3, 4, 7, 8, 9}) {
            all.add(count(what));
        }
        int rooms = (Integer) all.get(0);
        int things = (Integer) all.get(1);
        int daemons = (Integer) all.get(2);
        for (int room = 0; room < rooms; room++) {
            final int r = room;
            all.add(isLit(r));
            for (int direction = 0; direction < 6; direction++) {
                final int d = direction;
                all.add(Check.answer(() -> exit(r, d)));
                if (all.get(all.size() - 1) instanceof Integer) {
                    all.add(door(r, d));
                }
            }
        }
        for (int thing = 0; thing < things; thing++) {
            final int t = thing;
            for (int what = 0; what < 12; what++) {
                all.add(thing(t, what));
            }
            all.add(Check.answer(() -> isVisible(t)));
            all.add(Check.answer(() -> isReachable(t)));
        }
        for (int daemon = 0; daemon < daemons; daemon++) {
            for (int what = 0; what < 6; what++) {
                all.add(daemon(daemon, what));
            }
        }
        all.add(events());
        return all;
    }

    /** All that the calls tell of the world, and of what does not belong to it. */
    List<Object> picture() {
        List<Object> all = world();
        all.add(count(5));
        all.add(count(6));
        all.add(faultPosition());
        for (int what = 0; what < 3; what++) {
            all.add(refusal(what));
        }
        return all;
    }
}
