import java.util.ArrayList;
import java.util.Arrays;
import java.util.List;
import java.util.TreeMap;
import java.util.TreeSet;

/**
 * The document once more, with the Java library and without care for room or speed: RandomTest
 * holds the class against it. It shares no code with the class, so that one slip is not made twice.
 */
final class PlainHeap {
    static final int INVALID = -11;
    static final int IMPOSSIBLE = -12;
    static final int LIMIT = -13;
    static final int MISSING = -14;

    enum Colour { WHITE, GREY, BLACK }

    enum Part { NONE, MARKING, FINISHING, SWEEPING }

    static final class Thing {
        Integer[] fields = new Integer[3];
        boolean wants;
        Colour colour = Colour.WHITE;
        int searchesBefore;

        Thing copy() {
            Thing other = new Thing();
            other.fields = fields.clone();
            other.wants = wants;
            other.colour = colour;
            other.searchesBefore = searchesBefore;
            return other;
        }
    }

    static final class World {
        TreeMap<Integer, Thing> things = new TreeMap<>();
        Integer[] roots = new Integer[4];
        Integer[] weak = new Integer[4];
        List<Integer> list = new ArrayList<>();
        List<Integer> row = new ArrayList<>();
        TreeSet<Integer> gone = new TreeSet<>();
        Part part = Part.NONE;
        int sweepFrom;
        int care = 1;
        int searches;
        int came;
        int letGo;
        int finished;
        int steps;

        World copy() {
            World other = new World();
            things.forEach((number, thing) -> other.things.put(number, thing.copy()));
            other.roots = roots.clone();
            other.weak = weak.clone();
            other.list = new ArrayList<>(list);
            other.row = new ArrayList<>(row);
            other.gone = new TreeSet<>(gone);
            other.part = part;
            other.sweepFrom = sweepFrom;
            other.care = care;
            other.searches = searches;
            other.came = came;
            other.letGo = letGo;
            other.finished = finished;
            other.steps = steps;
            return other;
        }
    }

    private World world = new World();
    private World snapshot;
    private final List<World> past = new ArrayList<>();
    private String text = "";

    // ---- changes: each is tried on a copy, which takes the place of the world if it went well

    private interface Change {
        int on(World world);
    }

    private int change(Change change) {
        World next = world.copy();
        int answer = change.on(next);
        if (answer == INVALID || answer == IMPOSSIBLE || answer == LIMIT || answer == MISSING) {
            return answer;
        }
        past.add(world);
        if (past.size() == 5) {
            past.remove(0);
        }
        world = next;
        return answer;
    }

    int make(int root) {
        return change(w -> make(w, root));
    }

    int field(int object, int field, int to) {
        return change(w -> field(w, object, field, to));
    }

    int root(int root, int to) {
        return change(w -> root(w, root, to));
    }

    int weak(int holder, int to) {
        return change(w -> {
            if (holder < 0 || holder > 3 || to != -1 && !w.things.containsKey(to)) {
                return INVALID;
            }
            if (to != -1 && !reachable(w, true, -1).contains(to)) {
                return IMPOSSIBLE;
            }
            int old = number(w.weak[holder]);
            w.weak[holder] = to == -1 ? null : to;
            return old;
        });
    }

    int ask(int holder, int root) {
        return change(w -> {
            if (holder < 0 || holder > 3 || root < 0 || root > 3) {
                return INVALID;
            }
            Integer object = w.weak[holder];
            if (object == null) {
                return MISSING;
            }
            writeRoot(w, root, object);
            if (caring(w)) {
                shade(w, object);
            }
            return object;
        });
    }

    int want(int object) {
        return change(w -> {
            Thing thing = w.things.get(object);
            if (thing == null) {
                return INVALID;
            }
            if (thing.wants || !reachable(w, true, -1).contains(object)) {
                return IMPOSSIBLE;
            }
            thing.wants = true;
            return (int) w.things.values().stream().filter(t -> t.wants).count();
        });
    }

    int finish(int root) {
        return change(w -> {
            if (root < -1 || root > 3) {
                return INVALID;
            }
            if (w.list.isEmpty()) {
                return IMPOSSIBLE;
            }
            Integer object = w.list.remove(0);
            w.finished++;
            if (root >= 0) {
                writeRoot(w, root, object);
            }
            if (caring(w)) {
                shade(w, object);
            }
            return object;
        });
    }

    int begin() {
        return change(w -> begin(w));
    }

    int step(int many) {
        return change(w -> step(w, many));
    }

    int all() {
        return change(w -> {
            if (w.part == Part.NONE) {
                begin(w);
            }
            int steps = 0;
            while (w.part != Part.NONE) {
                oneStep(w);
                steps++;
            }
            return steps;
        });
    }

    int set(int value) {
        return change(w -> {
            if (value != 1 && value != 2) {
                return INVALID;
            }
            if (w.part != Part.NONE) {
                return IMPOSSIBLE;
            }
            int old = w.care;
            w.care = value;
            return old;
        });
    }

    int restore() {
        if (snapshot == null) {
            return IMPOSSIBLE;
        }
        past.add(world);
        if (past.size() == 5) {
            past.remove(0);
        }
        world = snapshot.copy();
        return world.things.size();
    }

    int play() {
        Fault fault = new Fault();
        return fault.reason != 0 ? IMPOSSIBLE : change(w -> fault.tryOn(w));
    }

    // ---- what is no change

    int keep() {
        snapshot = world.copy();
        return world.things.size();
    }

    int undo() {
        if (past.isEmpty()) {
            return IMPOSSIBLE;
        }
        world = past.remove(past.size() - 1);
        return past.size();
    }

    int type(int character) {
        if (character < 32 || character > 126) {
            return INVALID;
        }
        if (text.length() == 60) {
            return LIMIT;
        }
        text += (char) character;
        return text.length();
    }

    int clearText() {
        int old = text.length();
        text = "";
        return old;
    }

    int fault(int what) {
        if (what < 0 || what > 2) {
            return INVALID;
        }
        Fault fault = new Fault();
        if (fault.reason == 0 || what == 2 && fault.reason == 1) {
            return MISSING;
        }
        return what == 0 ? fault.position : what == 1 ? fault.reason : fault.cause;
    }

    int objectOf(int object, int what) {
        Thing thing = world.things.get(object);
        if (thing == null || what < 0 || what > 7) {
            return INVALID;
        }
        switch (what) {
            case 0: return thing.colour.ordinal();
            case 4: return thing.wants ? 1 : 0;
            case 5: return reachable(world, false, -1).contains(object) ? 1 : 0;
            case 6: return world.list.indexOf(object);
            case 7: return world.searches - thing.searchesBefore;
            default: return number(thing.fields[what - 1]);
        }
    }

    int refers(int kind, int number) {
        if (kind < 0 || kind > 1 || number < 0 || number > 3) {
            return INVALID;
        }
        Integer to = (kind == 0 ? world.roots : world.weak)[number];
        return to == null ? MISSING : to;
    }

    int grey(int index) {
        if (index < 0) {
            return INVALID;
        }
        return index < world.row.size() ? world.row.get(index) : MISSING;
    }

    int objects(int what) {
        switch (what) {
            case 0: return bits(world.things.keySet());
            case 1: return bits(reachable(world, false, -1));
            case 2: return bits(reachable(world, true, -1));
            case 3: return coloured(Colour.WHITE);
            case 4: return coloured(Colour.GREY);
            case 5: return coloured(Colour.BLACK);
            case 6:
                TreeSet<Integer> wanting = new TreeSet<>();
                world.things.forEach((number, thing) -> {
                    if (thing.wants) {
                        wanting.add(number);
                    }
                });
                return bits(wanting);
            case 7: return bits(world.gone);
            default: return INVALID;
        }
    }

    int count(int what) {
        switch (what) {
            case 0: return world.things.size();
            case 1: return world.part.ordinal();
            case 2: return world.searches;
            case 3: return world.came;
            case 4: return world.letGo;
            case 5: return world.finished;
            case 6: return world.list.size();
            case 7: return world.part == Part.SWEEPING ? world.sweepFrom : MISSING;
            case 8: return world.searches == 0 ? MISSING : world.steps;
            case 9: return world.care;
            case 10: return past.size();
            case 11: return text.length();
            case 12: return snapshot == null ? 0 : 1;
            default: return INVALID;
        }
    }

    int far(int object) {
        if (!world.things.containsKey(object)) {
            return INVALID;
        }
        TreeMap<Integer, Integer> distances = new TreeMap<>();
        List<Integer> queue = new ArrayList<>();
        for (Integer root : world.roots) {
            if (root != null && distances.putIfAbsent(root, 0) == null) {
                queue.add(root);
            }
        }
        for (int i = 0; i < queue.size(); i++) {
            int here = queue.get(i);
            for (Integer to : world.things.get(here).fields) {
                if (to != null && distances.putIfAbsent(to, distances.get(here) + 1) == null) {
                    queue.add(to);
                }
            }
        }
        return distances.getOrDefault(object, MISSING);
    }

    int hangs(int object) {
        if (!world.things.containsKey(object)) {
            return INVALID;
        }
        TreeSet<Integer> reached = reachable(world, false, -1);
        if (!reached.contains(object)) {
            return IMPOSSIBLE;
        }
        reached.removeAll(reachable(world, false, object));
        return bits(reached);
    }

    int wouldGo() {
        World trial = world.copy();
        if (trial.part == Part.NONE) {
            begin(trial);
        }
        while (trial.part != Part.NONE) {
            oneStep(trial);
        }
        TreeSet<Integer> going = new TreeSet<>(world.things.keySet());
        going.removeAll(trial.things.keySet());
        return bits(going);
    }

    int late() {
        TreeSet<Integer> reached = reachable(world, true, -1);
        int late = 0;
        for (int number : world.things.keySet()) {
            boolean isKept = world.things.get(number).colour != Colour.WHITE
                || world.part == Part.SWEEPING && number < world.sweepFrom;
            if (world.part != Part.NONE && isKept && !reached.contains(number)) {
                late++;
            }
        }
        return late;
    }

    // ---- the rules on a world

    private static int number(Integer reference) {
        return reference == null ? -1 : reference;
    }

    private static int bits(Iterable<Integer> numbers) {
        int bits = 0;
        for (int number : numbers) {
            bits |= 1 << number;
        }
        return bits;
    }

    private int coloured(Colour colour) {
        TreeSet<Integer> found = new TreeSet<>();
        world.things.forEach((number, thing) -> {
            if (thing.colour == colour) {
                found.add(number);
            }
        });
        return bits(found);
    }

    private static TreeSet<Integer> reachable(World w, boolean withList, int without) {
        TreeSet<Integer> reached = new TreeSet<>();
        List<Integer> open = new ArrayList<>(Arrays.asList(w.roots));
        if (withList) {
            open.addAll(w.list);
        }
        while (!open.isEmpty()) {
            Integer next = open.remove(open.size() - 1);
            if (next != null && next != without && reached.add(next)) {
                open.addAll(Arrays.asList(w.things.get(next).fields));
            }
        }
        return reached;
    }

    private static boolean caring(World w) {
        return w.part == Part.MARKING || w.part == Part.FINISHING;
    }

    private static void shade(World w, Integer number) {
        if (number != null && w.things.get(number).colour == Colour.WHITE) {
            w.things.get(number).colour = Colour.GREY;
            w.row.add(number);
        }
    }

    private static void written(World w, boolean rootOrBlack, Integer old, Integer to) {
        if (caring(w) && w.care == 1 && rootOrBlack) {
            shade(w, to);
        }
        if (caring(w) && w.care == 2 && number(old) != number(to)) {
            shade(w, old);
        }
    }

    private static void writeRoot(World w, int root, Integer to) {
        Integer old = w.roots[root];
        w.roots[root] = to;
        written(w, true, old, to);
    }

    private static int make(World w, int root) {
        if (root < 0 || root > 3) {
            return INVALID;
        }
        int number = 0;
        while (w.things.containsKey(number)) {
            number++;
        }
        if (number == 24) {
            return LIMIT;
        }
        Thing thing = new Thing();
        thing.searchesBefore = w.searches;
        boolean black = caring(w) || w.part == Part.SWEEPING && w.sweepFrom <= number;
        thing.colour = black ? Colour.BLACK : Colour.WHITE;
        w.things.put(number, thing);
        w.came++;
        writeRoot(w, root, number);
        return number;
    }

    private static int field(World w, int object, int field, int to) {
        Thing thing = w.things.get(object);
        if (thing == null || field < 0 || field > 2 || to != -1 && !w.things.containsKey(to)) {
            return INVALID;
        }
        TreeSet<Integer> reached = reachable(w, true, -1);
        if (!reached.contains(object) || to != -1 && !reached.contains(to)) {
            return IMPOSSIBLE;
        }
        Integer old = thing.fields[field];
        thing.fields[field] = to == -1 ? null : to;
        written(w, thing.colour == Colour.BLACK, old, thing.fields[field]);
        return number(old);
    }

    private static int root(World w, int root, int to) {
        if (root < 0 || root > 3 || to != -1 && !w.things.containsKey(to)) {
            return INVALID;
        }
        if (to != -1 && !reachable(w, true, -1).contains(to)) {
            return IMPOSSIBLE;
        }
        int old = number(w.roots[root]);
        writeRoot(w, root, to == -1 ? null : to);
        return old;
    }

    private static int begin(World w) {
        if (w.part != Part.NONE) {
            return IMPOSSIBLE;
        }
        w.part = Part.MARKING;
        w.searches++;
        w.steps = 0;
        w.gone.clear();
        for (Integer root : w.roots) {
            shade(w, root);
        }
        for (Integer waiting : w.list) {
            shade(w, waiting);
        }
        return w.row.size();
    }

    private static int step(World w, int many) {
        if (many < 1 || many > 99) {
            return INVALID;
        }
        if (w.part == Part.NONE) {
            return IMPOSSIBLE;
        }
        int before = w.letGo;
        for (int i = 0; i < many && w.part != Part.NONE; i++) {
            oneStep(w);
        }
        return w.letGo - before;
    }

    private static void forgetWhiteWeakly(World w) {
        for (int i = 0; i < 4; i++) {
            if (w.weak[i] != null && w.things.get(w.weak[i]).colour == Colour.WHITE) {
                w.weak[i] = null;
            }
        }
    }

    private static void oneStep(World w) {
        w.steps++;
        if (w.part == Part.SWEEPING) {
            sweepOne(w);
            return;
        }
        if (!w.row.isEmpty()) {
            Thing first = w.things.get(w.row.remove(0));
            for (Integer to : first.fields) {
                shade(w, to);
            }
            first.colour = Colour.BLACK;
            return;
        }
        if (w.part == Part.MARKING) {
            forgetWhiteWeakly(w);
            w.part = Part.FINISHING;
            return;
        }
        for (int number : w.things.keySet()) {
            Thing thing = w.things.get(number);
            if (thing.wants && thing.colour == Colour.WHITE) {
                thing.wants = false;
                w.list.add(number);
                shade(w, number);
                return;
            }
        }
        forgetWhiteWeakly(w);
        w.part = Part.SWEEPING;
        w.sweepFrom = 0;
    }

    private static void sweepOne(World w) {
        Integer number = w.things.ceilingKey(w.sweepFrom);
        if (number == null) {
            w.part = Part.NONE;
            return;
        }
        w.sweepFrom = number + 1;
        if (w.things.get(number).colour != Colour.WHITE) {
            w.things.get(number).colour = Colour.WHITE;
            return;
        }
        w.things.remove(number);
        w.letGo++;
        w.gone.add(number);
        for (Thing thing : w.things.values()) {
            forget(thing.fields, number);
        }
        forget(w.weak, number);
    }

    private static void forget(Integer[] references, Integer number) {
        for (int i = 0; i < references.length; i++) {
            if (number.equals(references[i])) {
                references[i] = null;
            }
        }
    }

    /** The text is cut at its first ";" each time and held against the forms as patterns. */
    private final class Fault {
        int position;
        int reason;
        int cause;

        Fault() {
            tryOn(world.copy());
        }

        int tryOn(World w) {
            int start = 0;
            int done = 0;
            while (start < text.length()) {
                int end = text.indexOf(';', start);
                String command = end < 0 ? "" : text.substring(start, end);
                position = start;
                String number = "[0-9]{1,3}";
                if (!command.matches("[ns]" + number + "|b|r" + number + ",(-|" + number + ")|f" + number + ","
                    + number + ",(-|" + number + ")")) {
                    reason = 1;
                    return done;
                }
                cause = doOne(w, command.charAt(0), command.substring(1).split(","));
                if (cause <= INVALID) {
                    reason = 2;
                    return done;
                }
                done++;
                start = end + 1;
            }
            reason = 0;
            return done;
        }

        private int doOne(World w, char kind, String[] words) {
            int[] numbers = new int[3];
            for (int i = 0; i < words.length; i++) {
                numbers[i] = words[i].isEmpty() ? 0 : words[i].equals("-") ? -1 : Integer.parseInt(words[i]);
            }
            switch (kind) {
                case 'n': return make(w, numbers[0]);
                case 'f': return field(w, numbers[0], numbers[1], numbers[2]);
                case 'r': return root(w, numbers[0], numbers[1]);
                case 'b': return begin(w);
                default: return step(w, numbers[0]);
            }
        }
    }
}
