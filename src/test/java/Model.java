import java.util.ArrayDeque;
import java.util.ArrayList;
import java.util.Deque;
import java.util.HashSet;
import java.util.List;
import java.util.NoSuchElementException;
import java.util.Set;
import java.util.TreeSet;
import java.util.regex.Matcher;
import java.util.regex.Pattern;

/**
 * The document once more, written with objects, recursion, texts and patterns where the program has rows of numbers:
 * slow and plain, to be compared with the program call by call.
 */
public final class Model {
    private static final List<String> WAYS = List.of("north", "east", "south", "west", "up", "down");
    private static final List<String> NOUNS = List.of("box", "lamp", "key", "door", "coin", "rope", "book", "bell");
    private static final List<String> ADJECTIVES = List.of("", "red", "old", "big");

    private static final String WAY = "(" + String.join("|", WAYS) + ")";
    private static final String PHRASE = "((red|old|big) )?(" + String.join("|", NOUNS) + ")";
    private static final String COMMAND = "(look|wait|(go )?" + WAY + "|(take|drop) (all|" + PHRASE + ")"
            + "|(open|close|light|quench) " + PHRASE + "|put " + PHRASE + " (in|on) " + PHRASE
            + "|(lock|unlock) " + PHRASE + " with " + PHRASE + ")";
    private static final Pattern ONE_PHRASE = Pattern.compile(PHRASE);
    private static final Pattern TEXT = Pattern.compile(COMMAND + "(\\. " + COMMAND + ")*");

    private static final class Room {
        boolean light;
        final Integer[] to = new Integer[6];
        final Integer[] door = new Integer[6];

        Room copy() {
            Room r = new Room();
            r.light = light;
            System.arraycopy(to, 0, r.to, 0, 6);
            System.arraycopy(door, 0, r.door, 0, 6);
            return r;
        }
    }

    private static final class Thing {
        int kind, noun, adjective, size, capacity, worth, fuel, place = 4, target = -1;
        int key = -1;
        final Set<Integer> flags = new TreeSet<>();

        Thing copy() {
            Thing t = new Thing();
            t.kind = kind; t.noun = noun; t.adjective = adjective; t.size = size; t.capacity = capacity;
            t.worth = worth; t.fuel = fuel; t.place = place; t.target = target; t.key = key;
            t.flags.addAll(flags);
            return t;
        }

        String text() {
            return kind + " " + noun + " " + adjective + " " + size + " " + capacity + " " + worth + " " + fuel
                    + " " + place + " " + target + " " + key + " " + flags;
        }
    }

    private static final class Daemon {
        int kind, thing, period, time = -1, caused, last = 5;
        boolean once;

        Daemon copy() {
            Daemon d = new Daemon();
            d.kind = kind; d.thing = thing; d.period = period; d.time = time; d.caused = caused; d.last = last;
            d.once = once;
            return d;
        }

        String text() {
            return kind + " " + thing + " " + period + " " + time + " " + caused + " " + last + " " + once;
        }
    }

    private static final class State {
        final List<Room> rooms = new ArrayList<>();
        final List<Thing> things = new ArrayList<>();
        final List<Daemon> daemons = new ArrayList<>();
        final List<Integer> events = new ArrayList<>();
        final List<String> turns = new ArrayList<>();
        boolean played;
        int clock, player;

        State copy() {
            State s = new State();
            rooms.forEach(r -> s.rooms.add(r.copy()));
            things.forEach(t -> s.things.add(t.copy()));
            daemons.forEach(d -> s.daemons.add(d.copy()));
            s.events.addAll(events);
            s.turns.addAll(turns);
            s.played = played; s.clock = clock; s.player = player;
            return s;
        }

        String text() {
            StringBuilder b = new StringBuilder();
            things.forEach(t -> b.append(t.text()).append('\n'));
            daemons.forEach(d -> b.append(d.text()).append('\n'));
            return b.append(events).append(clock).append(' ').append(player).toString();
        }
    }

    /** Why a command is not carried out. */
    private static final class Refused extends Exception {
        final int reason, thing;

        Refused(int reason, int thing) {
            this.reason = reason;
            this.thing = thing;
        }
    }

    private State s = new State();
    private State begun;
    private State saved;
    private State savedBegun;
    private final Deque<State> undoable = new ArrayDeque<>();
    private String buffer = "";
    private int fault = -1;
    private int[] refusal = {0, -1, -1};

    private static void index(boolean good) {
        if (!good) throw new IndexOutOfBoundsException();
    }

    private static void argument(boolean good) {
        if (!good) throw new IllegalArgumentException();
    }

    private static void kind(boolean good) {
        if (!good) throw new UnsupportedOperationException();
    }

    private static void state(boolean good) {
        if (!good) throw new IllegalStateException();
    }

    private boolean isRoom(int r) { return 0 <= r && r < s.rooms.size(); }

    private boolean isThing(int t) { return 0 <= t && t < s.things.size(); }

    public int addRoom(boolean isLight) {
        state(!s.played && s.rooms.size() < 8);
        Room r = new Room();
        r.light = isLight;
        s.rooms.add(r);
        return s.rooms.size() - 1;
    }

    public int connect(int room, int direction, int to, int door) {
        index(isRoom(room) && (to == -1 || isRoom(to)) && (door == -1 || isThing(door)));
        argument(0 <= direction && direction <= 5);
        argument(door == -1 || s.things.get(door).kind == 4 && to != -1);
        state(!s.played);
        Room r = s.rooms.get(room);
        Integer before = r.to[direction];
        r.to[direction] = to == -1 ? null : to;
        r.door[direction] = door == -1 ? null : door;
        return before == null ? -1 : before;
    }

    public int addThing(int kind, int noun, int adjective, int size) {
        argument(0 <= kind && kind <= 4 && 0 <= noun && noun <= 7);
        argument(0 <= adjective && adjective <= 3 && 1 <= size && size <= 9);
        state(!s.played && s.things.size() < 16);
        Thing t = new Thing();
        t.kind = kind; t.noun = noun; t.adjective = adjective; t.size = size;
        s.things.add(t);
        return s.things.size() - 1;
    }

    public int setCapacity(int thing, int capacity) {
        index(isThing(thing));
        argument(0 <= capacity && capacity <= 30);
        Thing t = s.things.get(thing);
        kind(t.kind == 1 || t.kind == 2);
        state(!s.played && inside(s, thing) <= capacity);
        int before = t.capacity;
        t.capacity = capacity;
        return before;
    }

    public boolean setFlag(int thing, int flag, boolean on) {
        index(isThing(thing));
        argument(0 <= flag && flag <= 4);
        Thing t = s.things.get(thing);
        String[] kinds = {"012", "14", "14", "1", "3"};
        kind(kinds[flag].contains("" + t.kind));
        state(!s.played);
        Set<Integer> then = new HashSet<>(t.flags);
        if (on) then.add(flag); else then.remove(flag);
        state(!(then.contains(1) && then.contains(2)));
        state(!(then.contains(4) && t.fuel == 0));
        boolean before = t.flags.contains(flag);
        t.flags.clear();
        t.flags.addAll(then);
        return before;
    }

    public int setKey(int thing, int key) {
        index(isThing(thing) && (key == -1 || isThing(key)));
        Thing t = s.things.get(thing);
        kind(t.kind == 1 || t.kind == 4);
        state(!s.played);
        int before = t.key;
        t.key = key;
        return before;
    }

    public int setFuel(int thing, int fuel) {
        index(isThing(thing));
        argument(0 <= fuel && fuel <= 99);
        Thing t = s.things.get(thing);
        kind(t.kind == 3);
        state(!s.played && !(t.flags.contains(4) && fuel == 0));
        int before = t.fuel;
        t.fuel = fuel;
        return before;
    }

    public int setWorth(int thing, int worth) {
        index(isThing(thing));
        argument(0 <= worth && worth <= 9);
        state(!s.played);
        Thing t = s.things.get(thing);
        int before = t.worth;
        t.worth = worth;
        return before;
    }

    private void checkPlace(int place, int target) {
        argument(0 <= place && place <= 4);
        argument(place != 0 || isRoom(target));
        argument(place != 1 && place != 2 || isThing(target));
    }

    public int put(int thing, int place, int target) {
        index(isThing(thing));
        checkPlace(place, target);
        Thing t = s.things.get(thing);
        kind(t.kind != 4);
        kind(place != 1 || s.things.get(target).kind == 1);
        kind(place != 2 || s.things.get(target).kind == 2);
        state(!s.played);
        state(!(place == 1 || place == 2) || !within(s, target, thing));
        State then = s.copy();
        then.things.get(thing).place = place;
        then.things.get(thing).target = place < 3 ? target : -1;
        state(load(then) <= 20);
        state(!(place == 1 || place == 2) || inside(then, target) <= s.things.get(target).capacity);
        int before = t.place;
        s = then;
        return before;
    }

    public int addDaemon(int kind, int thing, int period, boolean once) {
        index(isThing(thing));
        argument(0 <= kind && kind <= 3 && 1 <= period && period <= 20);
        int k = s.things.get(thing).kind;
        kind(kind != 0 || k == 1 || k == 4);
        kind(kind != 1 || k != 4);
        kind(kind != 2 || k == 1);
        kind(kind != 3 || k == 3);
        state(!s.played && s.daemons.size() < 6);
        Daemon d = new Daemon();
        d.kind = kind; d.thing = thing; d.period = period; d.once = once;
        s.daemons.add(d);
        return s.daemons.size() - 1;
    }

    public int begin(int room) {
        index(isRoom(room));
        state(!s.played);
        undoable.clear();
        begun = s.copy();
        start(s, room);
        return s.things.size();
    }

    private static void start(State s, int room) {
        s.played = true;
        s.player = room;
        s.clock = 0;
        s.events.clear();
        s.turns.clear();
        for (Daemon d : s.daemons) {
            d.time = d.period;
            d.caused = 0;
            d.last = 5;
        }
    }

    public int stop() {
        state(s.played);
        int clock = s.clock;
        s = begun;
        undoable.clear();
        return clock;
    }

    public int append(int packed) {
        String more = "";
        for (byte b : new byte[] {(byte) (packed >>> 24), (byte) (packed >>> 16), (byte) (packed >>> 8), (byte) packed}) {
            argument(b == 0 || b >= 32 && b <= 126);
            more += b == 0 ? "" : "" + (char) b;
        }
        argument(!more.isEmpty());
        state((buffer + more).length() <= 80);
        buffer += more;
        return buffer.length();
    }

    private static int faultOf(Pattern language, String text) {
        for (int i = 0; i < text.length(); i++) {
            Matcher m = language.matcher(text.substring(0, i + 1));
            if (!m.matches() && !m.hitEnd()) return i;
        }
        return language.matcher(text).matches() ? -1 : text.length();
    }

    public int command() {
        state(s.played);
        String text = buffer;
        buffer = "";
        fault = faultOf(TEXT, text);
        argument(fault == -1);
        refusal = new int[] {0, -1, -1};
        String[] commands = text.split("\\. ");
        for (int i = 0; i < commands.length; i++) {
            State before = s.copy();
            try {
                perform(s, commands[i]);
            } catch (Refused r) {
                s = before;
                refusal = new int[] {r.reason, r.thing, i};
                return i;
            }
            if (!commands[i].equals("look")) {
                undoable.addLast(before);
                if (undoable.size() > 10) undoable.removeFirst();
            }
        }
        return commands.length;
    }

    public int foresee() {
        state(s.played);
        argument(faultOf(TEXT, buffer) == -1);
        State dream = s.copy();
        String[] commands = buffer.split("\\. ");
        for (int i = 0; i < commands.length; i++) {
            try {
                perform(dream, commands[i]);
            } catch (Refused r) {
                return i;
            }
        }
        return commands.length;
    }

    public int matching() {
        state(s.played);
        String text = buffer;
        buffer = "";
        fault = faultOf(ONE_PHRASE, text);
        argument(fault == -1);
        int set = 0;
        for (int t : named(s, text)) set += 1 << t;
        return set;
    }

    public int faultPosition() { return fault; }

    public int refusal(int what) {
        argument(0 <= what && what <= 2);
        return refusal[what];
    }

    public int undo() {
        state(!undoable.isEmpty());
        s = undoable.removeLast();
        return undoable.size();
    }

    public boolean isReplayed() {
        state(s.played);
        State again = begun.copy();
        start(again, firstRoom());
        for (String command : s.turns) {
            try {
                perform(again, command);
            } catch (Refused r) {
                return false;
            }
        }
        return again.text().equals(s.text());
    }

    // The room where play began is found by going the turns back: it is kept with the first turn.
    private int firstRoom() {
        return s.turns.isEmpty() ? s.player : Integer.parseInt(s.turns.get(0).split("@")[1]);
    }

    public int thing(int thing, int what) {
        index(isThing(thing));
        argument(0 <= what && what <= 11);
        Thing t = s.things.get(thing);
        int flags = 0;
        for (int f : t.flags) flags += 1 << f;
        return new int[] {t.kind, t.noun, t.adjective, t.size, t.capacity, t.worth, t.fuel, t.key, flags, t.place,
            t.target, inside(s, thing)}[what];
    }

    public int exit(int room, int direction) {
        index(isRoom(room));
        argument(0 <= direction && direction <= 5);
        Integer to = s.rooms.get(room).to[direction];
        if (to == null) throw new NoSuchElementException();
        return to;
    }

    public int door(int room, int direction) {
        exit(room, direction);
        Integer door = s.rooms.get(room).door[direction];
        return door == null ? -1 : door;
    }

    public boolean isLit(int room) {
        index(isRoom(room));
        return lit(s, room);
    }

    public boolean isVisible(int thing) {
        index(isThing(thing));
        state(s.played);
        return visible(s, thing);
    }

    public boolean isReachable(int thing) {
        index(isThing(thing));
        state(s.played);
        return reachable(s, thing);
    }

    public int content(int place, int target, int index) {
        checkPlace(place, target);
        List<Integer> there = new ArrayList<>();
        for (int t = 0; t < s.things.size(); t++) {
            Thing x = s.things.get(t);
            if (x.place == place && (place > 2 || x.target == target)) there.add(t);
        }
        if (index == -1) return there.size();
        index(0 <= index && index < there.size());
        return there.get(index);
    }

    public int outer(int thing) {
        index(isThing(thing));
        return outer(s, thing);
    }

    public int distance(int from, int to) {
        index(isRoom(from) && isRoom(to));
        int[] far = new int[s.rooms.size()];
        java.util.Arrays.fill(far, -1);
        far[from] = 0;
        Deque<Integer> queue = new ArrayDeque<>(List.of(from));
        while (!queue.isEmpty()) {
            int r = queue.removeFirst();
            for (int w = 0; w < 6; w++) {
                Integer next = s.rooms.get(r).to[w];
                if (next != null && passable(s, r, w) && far[next] == -1) {
                    far[next] = far[r] + 1;
                    queue.addLast(next);
                }
            }
        }
        if (far[to] == -1) throw new NoSuchElementException();
        return far[to];
    }

    public int worth(int room) {
        index(room == -1 || isRoom(room));
        int sum = 0;
        for (int t = 0; t < s.things.size(); t++) sum += outer(s, t) == room ? s.things.get(t).worth : 0;
        return sum;
    }

    public float litShare() {
        if (s.rooms.isEmpty()) throw new ArithmeticException();
        int n = 0;
        for (int r = 0; r < s.rooms.size(); r++) if (lit(s, r)) n++;
        return (float) n / (float) s.rooms.size();
    }

    public double meanSize() {
        int n = 0;
        for (int t = 0; t < s.things.size(); t++) if (outer(s, t) == -1) n++;
        if (n == 0) throw new ArithmeticException();
        return (double) load(s) / (double) n;
    }

    public int daemon(int daemon, int what) {
        index(0 <= daemon && daemon < s.daemons.size());
        argument(0 <= what && what <= 5);
        Daemon d = s.daemons.get(daemon);
        return new int[] {d.kind, d.thing, d.period, s.played ? d.time : -1, s.played ? d.caused : 0,
            d.once ? 1 : 0}[what];
    }

    public int event(int index) {
        index(0 <= index && index < s.events.size());
        return s.events.get(index);
    }

    public int outerLater(int thing, int turns) {
        index(isThing(thing));
        argument(0 <= turns && turns <= 30);
        state(s.played);
        State later = s.copy();
        for (int i = 0; i < turns; i++) {
            try {
                perform(later, "wait");
            } catch (Refused r) {
                throw new AssertionError();
            }
        }
        return outer(later, thing);
    }

    public char letter(int noun, int index) {
        argument(0 <= noun && noun <= 7);
        index(0 <= index && index < NOUNS.get(noun).length());
        return NOUNS.get(noun).charAt(index);
    }

    public int count(int what) {
        argument(0 <= what && what <= 9);
        return new int[] {s.rooms.size(), s.things.size(), s.daemons.size(), s.played ? s.clock : -1,
            s.played ? s.player : -1, buffer.length(), undoable.size(), s.played ? s.turns.size() : 0,
            s.events.size(), load(s)}[what];
    }

    public int save() {
        saved = s.copy();
        savedBegun = begun == null ? null : begun.copy();
        return s.things.size();
    }

    public int restore() {
        state(saved != null);
        s = saved.copy();
        begun = savedBegun == null ? null : savedBegun.copy();
        undoable.clear();
        return s.things.size();
    }

    /** For what reason a command would be refused now, or 0, for those who choose one. */
    int reasonFor(String command) {
        try {
            if (s.played) perform(s.copy(), command);
            return 0;
        } catch (Refused r) {
            return r.reason;
        }
    }

    // Places.

    private static int inside(State s, int holder) {
        int sum = 0;
        for (Thing t : s.things) if ((t.place == 1 || t.place == 2) && t.target == holder) sum += t.size;
        return sum;
    }

    private static boolean within(State s, int thing, int whole) {
        Thing t = s.things.get(thing);
        return thing == whole || (t.place == 1 || t.place == 2) && within(s, t.target, whole);
    }

    private static int outer(State s, int thing) {
        Thing t = s.things.get(thing);
        switch (t.place) {
            case 0: return t.target;
            case 3: return -1;
            case 4: return -2;
            default: return outer(s, t.target);
        }
    }

    private static int load(State s) {
        int sum = 0;
        for (int t = 0; t < s.things.size(); t++) if (outer(s, t) == -1) sum += s.things.get(t).size;
        return sum;
    }

    private static boolean passable(State s, int room, int way) {
        Integer door = s.rooms.get(room).door[way];
        return s.rooms.get(room).to[way] != null && (door == null || s.things.get(door).flags.contains(1));
    }

    // Light and scope.

    private static boolean seeThrough(State s, Thing t) {
        Set<Integer> flags = s.things.get(t.target).flags;
        return t.place == 2 || flags.contains(1) || flags.contains(3);
    }

    private static boolean shown(State s, int thing, int room) {
        Thing t = s.things.get(thing);
        switch (t.place) {
            case 0: return t.target == room;
            case 3: return s.played && s.player == room;
            case 4: return false;
            default: return seeThrough(s, t) && shown(s, t.target, room);
        }
    }

    private static boolean lit(State s, int room) {
        boolean lamp = false;
        for (int t = 0; t < s.things.size(); t++) lamp |= s.things.get(t).flags.contains(4) && shown(s, t, room);
        return s.rooms.get(room).light || lamp;
    }

    private static boolean visible(State s, int thing) {
        Thing t = s.things.get(thing);
        if (lit(s, s.player)) {
            for (Integer door : s.rooms.get(s.player).door) if (door != null && door == thing) return true;
            return shown(s, thing, s.player);
        }
        return t.place == 3 || (t.place == 1 || t.place == 2) && seeThrough(s, t) && visible(s, t.target);
    }

    private static boolean openAbove(State s, int thing) {
        Thing t = s.things.get(thing);
        if (t.place == 1 && !s.things.get(t.target).flags.contains(1)) return false;
        return t.place != 1 && t.place != 2 || openAbove(s, t.target);
    }

    private static boolean reachable(State s, int thing) {
        return visible(s, thing) && openAbove(s, thing);
    }

    // Commands.

    private static List<Integer> named(State s, String phrase) {
        String[] words = phrase.split(" ");
        List<Integer> found = new ArrayList<>();
        for (int t = 0; t < s.things.size(); t++) {
            Thing x = s.things.get(t);
            boolean nounFits = NOUNS.get(x.noun).equals(words[words.length - 1]);
            boolean adjectiveFits = words.length == 1 || ADJECTIVES.get(x.adjective).equals(words[0]);
            if (nounFits && adjectiveFits && visible(s, t)) found.add(t);
        }
        return found;
    }

    private static int meant(State s, String phrase, String verb) throws Refused {
        List<Integer> found = named(s, phrase);
        if (found.isEmpty()) throw new Refused(1, -1);
        if (found.size() > 1) {
            List<Integer> better = new ArrayList<>();
            for (int t : found) {
                boolean carried = s.things.get(t).place == 3;
                if (verb.equals("take") && !carried) better.add(t);
                if ((verb.equals("drop") || verb.equals("put")) && carried) better.add(t);
            }
            if (!better.isEmpty()) found = better;
        }
        if (found.size() > 1) throw new Refused(2, -1);
        return found.get(0);
    }

    private static void refuseIf(boolean bad, int reason, int thing) throws Refused {
        if (bad) throw new Refused(reason, thing);
    }

    private static void perform(State s, String commandAndRoom) throws Refused {
        String command = commandAndRoom.split("@")[0];
        int room = s.player;
        if (command.equals("look")) {
            refuseIf(!lit(s, s.player), 12, -1);
            return;
        }
        act(s, command.startsWith("go ") ? command.substring(3) : command);
        s.turns.add(command + "@" + room);
        endTurn(s);
    }

    private static void act(State s, String command) throws Refused {
        if (command.equals("wait")) return;
        int way = WAYS.indexOf(command);
        if (way >= 0) {
            Room r = s.rooms.get(s.player);
            refuseIf(r.to[way] == null, 9, -1);
            refuseIf(!passable(s, s.player, way), 6, r.door[way] == null ? -1 : r.door[way]);
            s.player = r.to[way];
            return;
        }
        String verb = command.substring(0, command.indexOf(' '));
        String rest = command.substring(command.indexOf(' ') + 1);
        if (rest.equals("all")) {
            all(s, verb);
            return;
        }
        String[] phrases = rest.split(" (in|on|with) ");
        int first = meant(s, phrases[0], verb);
        int second = phrases.length > 1 ? meant(s, phrases[1], "") : -1;
        refuseIf(!reachable(s, first), 3, first);
        refuseIf(second >= 0 && !reachable(s, second), 3, second);
        if (verb.equals("put")) insert(s, first, second, rest.contains(" in ") ? 1 : 2);
        else if (second >= 0) turnKey(s, verb, first, second);
        else simple(s, verb, first);
    }

    private static void all(State s, String verb) throws Refused {
        boolean any = false;
        for (int i = 0; i < s.things.size(); i++) {
            Thing t = s.things.get(i);
            if (verb.equals("drop") && t.place == 3) {
                t.place = 0;
                t.target = s.player;
                any = true;
            } else if (verb.equals("take") && t.place == 0 && t.target == s.player && reachable(s, i)
                    && !t.flags.contains(0)) {
                t.place = 3;
                t.target = -1;
                if (load(s) > 20) {
                    t.place = 0;
                    t.target = s.player;
                } else {
                    any = true;
                }
            }
        }
        refuseIf(!any, 5, -1);
    }

    private static void simple(State s, String verb, int thing) throws Refused {
        Thing t = s.things.get(thing);
        boolean shuts = t.kind == 1 || t.kind == 4;
        switch (verb) {
            case "take":
                refuseIf(t.flags.contains(0) || t.kind == 4, 10, thing);
                refuseIf(t.place == 3, 5, -1);
                t.place = 3;
                t.target = -1;
                refuseIf(load(s) > 20, 7, thing);
                break;
            case "drop":
                refuseIf(t.place != 3, 5, -1);
                t.place = 0;
                t.target = s.player;
                break;
            case "open":
                refuseIf(!shuts, 4, thing);
                refuseIf(t.flags.contains(1), 5, -1);
                refuseIf(t.flags.contains(2), 6, thing);
                t.flags.add(1);
                break;
            case "close":
                refuseIf(!shuts, 4, thing);
                refuseIf(!t.flags.remove(1), 5, -1);
                break;
            case "light":
                refuseIf(t.kind != 3, 4, thing);
                refuseIf(t.flags.contains(4), 5, -1);
                refuseIf(t.fuel == 0, 11, thing);
                t.flags.add(4);
                break;
            case "quench":
                refuseIf(t.kind != 3, 4, thing);
                refuseIf(!t.flags.remove(4), 5, -1);
                break;
            default:
                throw new AssertionError(verb);
        }
    }

    private static void insert(State s, int first, int second, int place) throws Refused {
        Thing t = s.things.get(first);
        Thing h = s.things.get(second);
        refuseIf(t.flags.contains(0) || t.kind == 4, 10, first);
        refuseIf(h.kind != place, 4, second);
        refuseIf(within(s, second, first), 13, first);
        refuseIf(h.kind == 1 && !h.flags.contains(1), 6, second);
        refuseIf(t.place == place && t.target == second, 5, -1);
        t.place = place;
        t.target = second;
        refuseIf(inside(s, second) > h.capacity || load(s) > 20, 7, second);
    }

    private static void turnKey(State s, String verb, int thing, int key) throws Refused {
        Thing t = s.things.get(thing);
        refuseIf(t.kind != 1 && t.kind != 4, 4, thing);
        refuseIf(t.flags.contains(2) == verb.equals("lock"), 5, -1);
        refuseIf(t.flags.contains(1), 6, thing);
        refuseIf(t.key != key, 8, key);
        if (verb.equals("lock")) t.flags.add(2); else t.flags.remove(2);
    }

    // Turns.

    private static void event(State s, int kind, int thing) {
        s.events.add(100 * kind + thing);
        if (s.events.size() > 40) s.events.remove(0);
    }

    private static void endTurn(State s) {
        s.clock++;
        for (Daemon d : s.daemons) {
            if (d.time == s.clock) {
                int kind = run(s, d);
                if (kind != 0) d.caused++;
                d.time = d.once ? -1 : s.clock + d.period;
            }
        }
        for (int t = 0; t < s.things.size(); t++) {
            Thing x = s.things.get(t);
            if (x.flags.contains(4) && --x.fuel == 0) {
                x.flags.remove(4);
                event(s, 6, t);
            }
        }
    }

    private static int run(State s, Daemon d) {
        Thing t = s.things.get(d.thing);
        switch (d.kind) {
            case 0:
                if (!t.flags.remove(1)) return 0;
                event(s, 1, d.thing);
                return 1;
            case 1:
                for (int i = 1; i <= 6 && t.place == 0; i++) {
                    int way = (d.last + i) % 6;
                    if (passable(s, t.target, way)) {
                        t.target = s.rooms.get(t.target).to[way];
                        d.last = way;
                        event(s, 2, d.thing);
                        return 2;
                    }
                }
                return 0;
            case 2:
                for (int i = 0; i < s.things.size() && t.place == 0 && t.flags.contains(1); i++) {
                    Thing x = s.things.get(i);
                    if (i != d.thing && x.place == 0 && x.target == t.target && x.kind != 4 && !x.flags.contains(0)
                            && inside(s, d.thing) + x.size <= t.capacity) {
                        x.place = 1;
                        x.target = d.thing;
                        event(s, 3, i);
                        return 3;
                    }
                }
                return 0;
            default:
                if (t.flags.remove(4)) {
                    event(s, 5, d.thing);
                    return 5;
                }
                if (t.fuel == 0) return 0;
                t.flags.add(4);
                event(s, 4, d.thing);
                return 4;
        }
    }
}
