/**
 * Calls that are refused: arguments one too small and one too large, numbers that wrap around, calls that are not
 * possible; which error is returned where several apply; and that a refused call changes nothing.
 */
public final class RefusalTest {
    private static final int INVALID = ReachedHeap.INVALID_ARGUMENT;
    private static final int IMPOSSIBLE = ReachedHeap.NOT_POSSIBLE;
    private static final int LIMIT = ReachedHeap.LIMIT_REACHED;
    private static final int MISSING = ReachedHeap.NOT_FOUND;

    /** Numbers that a shift, a product by 3 or by 4, or a narrower type would bring back into a range. */
    private static final int[] WRAPPING = {
        Integer.MIN_VALUE, Integer.MIN_VALUE + 1, Integer.MAX_VALUE, -1, -32, -31, -64, -256, 32, 33, 64, 128, 256, 257, 0x10000,
        0x10001, 0x40000000, 0x55555556, 0xAAAAAAAB, 0x80000001, 0x1000061};

    private interface Argument {
        int on(ReachedHeap x, int value);
    }

    private static final Tests TESTS = new Tests("RefusalTest");

    public static void main(String[] args) {
        rangesOfChanges();
        rangesOfQuestions();
        numbersWithoutObject();
        fullOfObjects();
        notReached();
        notPossible();
        notFound();
        notPossibleText();
        whichError();
        TESTS.end();
    }

    // ---- how a refusal is tested

    private static void refused(String call, Stage stage, Stage.Use use, int error) {
        TESTS.due(call + ", " + stage, use.on(stage.build()), error);
        TESTS.due(call + ", " + stage + ", changes nothing", stage.isLeftAsItWas(use) ? 1 : 0, 1);
    }

    private static void refusedIn(String name, Stage.Use use, int error, Stage... stages) {
        TESTS.test(name, () -> {
            for (Stage stage : stages) {
                refused(name, stage, use, error);
            }
        });
    }

    private static void everywhere(String name, Stage.Use use) {
        refusedIn(name, use, INVALID, Stage.values());
    }

    private static void range(String call, int low, int high, Argument argument) {
        everywhere(call + ": " + (low - 1) + " is too small", x -> argument.on(x, low - 1));
        everywhere(call + ": " + (high + 1) + " is too large", x -> argument.on(x, high + 1));
        for (int value : WRAPPING) {
            if (value < low - 1 || value > high + 1) {
                everywhere(call + ": " + value + " is far off", x -> argument.on(x, value));
            }
        }
        TESTS.test(call + ": " + low + " to " + high + " are in the range", () -> {
            for (Stage stage : Stage.values()) {
                int lowest = argument.on(stage.build(), low);
                int highest = argument.on(stage.build(), high);
                TESTS.due(call + " with " + low + ", " + stage, lowest == INVALID ? 0 : 1, 1);
                TESTS.due(call + " with " + high + ", " + stage, highest == INVALID ? 0 : 1, 1);
            }
        });
    }

    /** Of an object, in a heap that has all 24: 0 and 23 are in the range in that heap. */
    private static void objectRange(String call, int low, Argument argument) {
        everywhere(call + ": " + (low - 1) + " is too small", x -> argument.on(x, low - 1));
        everywhere(call + ": 24 is too large", x -> argument.on(x, 24));
        for (int value : WRAPPING) {
            if (value < low - 1 || value > 24) {
                everywhere(call + ": " + value + " is far off", x -> argument.on(x, value));
            }
        }
        TESTS.test(call + ": " + low + " to 23 are in the range", () -> {
            for (int object = low; object < 24; object++) {
                int answer = argument.on(Stage.FULL_OF_OBJECTS.build(), object);
                TESTS.due(call + " with " + object, answer == INVALID ? 0 : 1, 1);
            }
        });
    }

    // ---- INVALID_ARGUMENT

    /** The other arguments are good, so that it is this one that is refused. */
    private static void rangesOfChanges() {
        range("make(root)", 0, 3, (x, value) -> x.make(value));
        range("ask(holder, 0)", 0, 3, (x, value) -> x.ask(value, 0));
        range("ask(0, root)", 0, 3, (x, value) -> x.ask(0, value));
        range("ask(3, root)", 0, 3, (x, value) -> x.ask(3, value));
        range("finish(root)", -1, 3, (x, value) -> x.finish(value));
        range("step(many)", 1, 99, (x, value) -> x.step(value));
        range("set(value)", 1, 2, (x, value) -> x.set(value));
        range("root(root, -1)", 0, 3, (x, value) -> x.root(value, -1));
        range("weak(holder, -1)", 0, 3, (x, value) -> x.weak(value, -1));
        range("type(character)", 32, 126, (x, value) -> x.type(value));
        objectRange("field(object, 0, -1)", 0, (x, value) -> x.field(value, 0, -1));
        objectRange("field(23, 0, to)", -1, (x, value) -> x.field(x.count(0) - 1, 0, value));
        objectRange("root(0, to)", -1, (x, value) -> x.root(0, value));
        objectRange("weak(0, to)", -1, (x, value) -> x.weak(0, value));
        objectRange("want(object)", 0, (x, value) -> x.want(value));
        for (Stage stage : Stage.values()) {
            if (stage != Stage.NEW) {
                fieldRange(stage);
            }
        }
    }

    /** A new heap has no object, so no field of one is in a range there. */
    private static void fieldRange(Stage stage) {
        refusedIn("field(0, field, 0): -1 is too small", x -> x.field(0, -1, 0), INVALID, stage);
        refusedIn("field(0, field, 0): 3 is too large", x -> x.field(0, 3, 0), INVALID, stage);
        refusedIn("field(0, field, -1): 3 is no field of object 1", x -> x.field(0, 3, -1), INVALID, stage);
        for (int value : WRAPPING) {
            if (value != -1) {
                refusedIn("field(0, field, 0): " + value + " is far off", x -> x.field(0, value, 0), INVALID, stage);
            }
        }
        TESTS.test("field(0, field, 0): 0 to 2 are in the range, " + stage, () -> {
            for (int field = 0; field <= 2; field++) {
                int before = stage.build().objectOf(0, field + 1);
                TESTS.due("field(0, " + field + ", 0)", stage.build().field(0, field, 0), before);
            }
        });
    }

    private static void rangesOfQuestions() {
        objectRange("objectOf(object, 0)", 0, (x, value) -> x.objectOf(value, 0));
        objectRange("far(object)", 0, (x, value) -> x.far(value));
        objectRange("hangs(object)", 0, (x, value) -> x.hangs(value));
        range("refers(kind, 0)", 0, 1, (x, value) -> x.refers(value, 0));
        range("refers(0, number)", 0, 3, (x, value) -> x.refers(0, value));
        range("refers(1, number)", 0, 3, (x, value) -> x.refers(1, value));
        range("objects(what)", 0, 7, (x, value) -> x.objects(value));
        range("count(what)", 0, 12, (x, value) -> x.count(value));
        range("fault(what)", 0, 2, (x, value) -> x.fault(value));
        everywhere("grey(index): -1 is negative", x -> x.grey(-1));
        everywhere("grey(index): the least number is negative", x -> x.grey(Integer.MIN_VALUE));
        everywhere("objectOf(0, what): -1 is too small", x -> x.objectOf(0, -1));
        everywhere("objectOf(0, what): 8 is too large", x -> x.objectOf(0, 8));
        everywhere("objectOf(0, what): 0x80000001 is too small", x -> x.objectOf(0, 0x80000001));
        TESTS.test("objectOf(0, what): 0 to 7 are in the range", () -> {
            for (Stage stage : Stage.values()) {
                for (int what = 0; what <= 7; what++) {
                    int answer = stage.build().objectOf(0, what);
                    TESTS.due("objectOf(0, " + what + "), " + stage, answer == INVALID ? 1 : 0, stage == Stage.NEW ? 1 : 0);
                }
            }
        });
    }

    /** "If there is no object with a certain number, this is INVALID_ARGUMENT": 5 is in the range, but has none. */
    private static void numbersWithoutObject() {
        Stage[] small = {Stage.NEW, Stage.OUTSIDE, Stage.MARKING, Stage.FINISHING, Stage.SWEEPING, Stage.MARKING_CARE_2};
        refusedIn("field(5, 0, 0): no object 5", x -> x.field(5, 0, 0), INVALID, small);
        refusedIn("field(5, 0, -1): no object 5", x -> x.field(5, 0, -1), INVALID, small);
        refusedIn("field(0, 0, 5): no object 5", x -> x.field(0, 0, 5), INVALID, small);
        refusedIn("root(0, 5): no object 5", x -> x.root(0, 5), INVALID, small);
        refusedIn("weak(0, 5): no object 5", x -> x.weak(0, 5), INVALID, small);
        refusedIn("want(5): no object 5", x -> x.want(5), INVALID, small);
        refusedIn("objectOf(5, 0): no object 5", x -> x.objectOf(5, 0), INVALID, small);
        refusedIn("far(5): no object 5", x -> x.far(5), INVALID, small);
        refusedIn("hangs(5): no object 5", x -> x.hangs(5), INVALID, small);
        refusedIn("far(23): no object 23", x -> x.far(23), INVALID, small);
        TESTS.test("an object that is let go is no object any more", () -> {
            ReachedHeap x = Stage.SWEEPING.build();
            x.step(2);
            TESTS.due("objects(7)", x.objects(7), 8);
            TESTS.due("objectOf(3, 0)", x.objectOf(3, 0), INVALID);
            TESTS.due("field(3, 0, -1)", x.field(3, 0, -1), INVALID);
            TESTS.due("field(0, 0, 3)", x.field(0, 0, 3), INVALID);
            TESTS.due("root(0, 3)", x.root(0, 3), INVALID);
            TESTS.due("weak(0, 3)", x.weak(0, 3), INVALID);
            TESTS.due("want(3)", x.want(3), INVALID);
            TESTS.due("far(3)", x.far(3), INVALID);
            TESTS.due("hangs(3)", x.hangs(3), INVALID);
        });
    }

    // ---- the other errors

    private static void fullOfObjects() {
        for (int root = 0; root <= 3; root++) {
            int to = root;
            refusedIn("make(" + root + ") if there are 24", x -> x.make(to), LIMIT, Stage.FULL_OF_OBJECTS);
        }
        refusedIn("type() if the text has 60", x -> x.type('b'), LIMIT, Stage.FULL_TEXT);
        refusedIn("type(32) if the text has 60", x -> x.type(32), LIMIT, Stage.FULL_TEXT);
        refusedIn("type(126) if the text has 60", x -> x.type(126), LIMIT, Stage.FULL_TEXT);
    }

    /** 3 is there and nothing reaches it in each of these; 2 is reached by the list in finishing and later. */
    private static void notReached() {
        Stage[] all = {Stage.OUTSIDE, Stage.MARKING, Stage.FINISHING, Stage.SWEEPING, Stage.OUTSIDE_CARE_2,
            Stage.MARKING_CARE_2, Stage.FINISHING_CARE_2, Stage.FULL_TEXT};
        refusedIn("field(3, 0, 0): 3 is not reached", x -> x.field(3, 0, 0), IMPOSSIBLE, all);
        refusedIn("field(3, 0, -1): 3 is not reached", x -> x.field(3, 0, -1), IMPOSSIBLE, all);
        refusedIn("field(0, 0, 3): 3 is not reached", x -> x.field(0, 0, 3), IMPOSSIBLE, all);
        refusedIn("field(3, 2, 3): 3 is not reached", x -> x.field(3, 2, 3), IMPOSSIBLE, all);
        refusedIn("root(0, 3): 3 is not reached", x -> x.root(0, 3), IMPOSSIBLE, all);
        refusedIn("weak(1, 3): 3 is not reached, though a weak holder refers to it", x -> x.weak(1, 3), IMPOSSIBLE, all);
        refusedIn("want(3): 3 is not reached", x -> x.want(3), IMPOSSIBLE, all);
        refusedIn("want(2): wants it already, and is not reached", x -> x.want(2), IMPOSSIBLE, Stage.OUTSIDE, Stage.MARKING);
        refusedIn("hangs(3): 3 is not reached", x -> x.hangs(3), IMPOSSIBLE, all);
        refusedIn("hangs(4): 4 is reached by the list alone", x -> x.hangs(4), IMPOSSIBLE, all);
        refusedIn("far(3): 3 is not reached", x -> x.far(3), MISSING, all);
        refusedIn("far(4): 4 is reached by the list alone", x -> x.far(4), MISSING, all);
        TESTS.test("what the list reaches can be named", () -> {
            for (Stage stage : all) {
                TESTS.due("field(4, 0, 4)", stage.build().field(4, 0, 4), -1);
                TESTS.due("field(0, 1, 4)", stage.build().field(0, 1, 4), -1);
                TESTS.due("root(3, 4)", stage.build().root(3, 4), -1);
                TESTS.due("weak(3, 4)", stage.build().weak(3, 4), -1);
                TESTS.due("want(4)", stage.build().want(4) > 0 ? 1 : 0, 1);
            }
        });
        TESTS.test("what nothing reaches can still be asked about", () -> {
            ReachedHeap x = Stage.OUTSIDE.build();
            TESTS.due("objectOf(3, 0)", x.objectOf(3, 0), 0);
            TESTS.due("objectOf(3, 5)", x.objectOf(3, 5), 0);
            TESTS.due("objectOf(2, 4)", x.objectOf(2, 4), 1);
            TESTS.due("refers(1, 1)", x.refers(1, 1), 3);
        });
        TESTS.test("writing none to a root or a weak holder names nothing", () -> {
            TESTS.due("root(3, -1)", Stage.NEW.build().root(3, -1), -1);
            TESTS.due("weak(3, -1)", Stage.NEW.build().weak(3, -1), -1);
        });
    }

    private static void notPossible() {
        Stage[] searches = {Stage.MARKING, Stage.FINISHING, Stage.SWEEPING, Stage.MARKING_CARE_2, Stage.FINISHING_CARE_2};
        Stage[] none = {Stage.NEW, Stage.OUTSIDE, Stage.OUTSIDE_CARE_2, Stage.FULL_OF_OBJECTS};
        refusedIn("begin() in a search", x -> x.begin(), IMPOSSIBLE, searches);
        refusedIn("set(1) in a search", x -> x.set(1), IMPOSSIBLE, searches);
        refusedIn("set(2) in a search", x -> x.set(2), IMPOSSIBLE, searches);
        refusedIn("step(1) without a search", x -> x.step(1), IMPOSSIBLE, none);
        refusedIn("step(99) without a search", x -> x.step(99), IMPOSSIBLE, none);
        for (int root = -1; root <= 3; root++) {
            int to = root;
            refusedIn("finish(" + root + ") with an empty list", x -> x.finish(to), IMPOSSIBLE, Stage.NEW, Stage.FULL_OF_OBJECTS);
        }
        refusedIn("restore() without a snapshot", x -> x.restore(), IMPOSSIBLE, Stage.NEW);
        refusedIn("undo() with an empty history", x -> x.undo(), IMPOSSIBLE, Stage.NEW);
        TESTS.test("a search that is over is none", () -> {
            ReachedHeap x = Stage.SWEEPING.build();
            x.step(99);
            TESTS.due("step(1)", x.step(1), IMPOSSIBLE);
            TESTS.due("set(2)", x.set(2), 1);
            TESTS.due("begin()", x.begin() >= 0 ? 1 : 0, 1);
        });
        TESTS.test("undo() and restore() bring back what is possible", () -> {
            ReachedHeap x = Stage.MARKING.build();
            TESTS.due("begin()", x.begin(), IMPOSSIBLE);
            x.undo();
            x.undo();
            TESTS.due("step(1)", x.step(1), IMPOSSIBLE);
            TESTS.due("begin()", x.begin(), 2);
            x.restore();
            TESTS.due("set(2)", x.set(2), 1);
        });
        TESTS.test("want() twice is not possible", () -> {
            ReachedHeap once = new ReachedHeap();
            ReachedHeap twice = new ReachedHeap();
            once.make(0);
            twice.make(0);
            TESTS.due("want(0)", once.want(0), 1);
            TESTS.due("want(0)", twice.want(0), 1);
            TESTS.due("want(0)", twice.want(0), IMPOSSIBLE);
            TESTS.due("it changes nothing", Stage.look(once).equals(Stage.look(twice)) ? 1 : 0, 1);
        });
    }

    private static void notFound() {
        refusedIn("ask(2, 0): it refers to none", x -> x.ask(2, 0), MISSING, Stage.values());
        refusedIn("ask(0, 3) of a new heap", x -> x.ask(0, 3), MISSING, Stage.NEW);
        refusedIn("ask(1, 0): emptied behind marking", x -> x.ask(1, 0), MISSING, Stage.FINISHING, Stage.SWEEPING);
        refusedIn("refers(0, 3): none", x -> x.refers(0, 3), MISSING, Stage.values());
        refusedIn("refers(1, 2): none", x -> x.refers(1, 2), MISSING, Stage.values());
        refusedIn("grey(0) of an empty row", x -> x.grey(0), MISSING, Stage.NEW, Stage.OUTSIDE, Stage.SWEEPING);
        refusedIn("grey(2) of two", x -> x.grey(2), MISSING, Stage.MARKING, Stage.MARKING_CARE_2);
        refusedIn("grey(24)", x -> x.grey(24), MISSING, Stage.values());
        refusedIn("grey(2147483647)", x -> x.grey(Integer.MAX_VALUE), MISSING, Stage.values());
        refusedIn("count(7) outside of sweeping", x -> x.count(7), MISSING, Stage.NEW, Stage.OUTSIDE, Stage.MARKING, Stage.FINISHING);
        refusedIn("count(8) ahead of the first search", x -> x.count(8), MISSING, Stage.NEW, Stage.FULL_OF_OBJECTS);
        refusedIn("fault(0) without a fault", x -> x.fault(0), MISSING, Stage.NEW, Stage.OUTSIDE);
        refusedIn("fault(1) without a fault", x -> x.fault(1), MISSING, Stage.NEW, Stage.OUTSIDE);
        refusedIn("fault(2) without a fault", x -> x.fault(2), MISSING, Stage.NEW, Stage.OUTSIDE);
        refusedIn("fault(2) if its reason is 1", x -> x.fault(2), MISSING, Stage.FULL_TEXT);
    }

    private static void notPossibleText() {
        refusedIn("play() with a fault of form", x -> x.play(), IMPOSSIBLE, Stage.FULL_TEXT);
        refusedIn("play() with a call that is refused", x -> x.play(), IMPOSSIBLE, Stage.MARKING, Stage.FINISHING,
            Stage.SWEEPING, Stage.MARKING_CARE_2, Stage.FULL_OF_OBJECTS);
        TESTS.test("none of the commands ahead of the fault is done", () -> {
            ReachedHeap written = new ReachedHeap();
            ReachedHeap played = new ReachedHeap();
            Stage.write(written, "n0;n1;b;s99;x;");
            Stage.write(played, "n0;n1;b;s99;x;");
            TESTS.due("play()", played.play(), IMPOSSIBLE);
            TESTS.due("play() changes nothing", Stage.look(written).equals(Stage.look(played)) ? 1 : 0, 1);
        });
        TESTS.test("the first fault is told, though a later one is of form", () -> {
            ReachedHeap x = new ReachedHeap();
            Stage.write(x, "n0;n4;x;");
            TESTS.due("fault(0)", x.fault(0), 3);
            TESTS.due("fault(1)", x.fault(1), 2);
            TESTS.due("fault(2)", x.fault(2), INVALID);
        });
    }

    // ---- which error, if several apply

    private static void whichError() {
        refusedIn("make(4) if there are 24", x -> x.make(4), INVALID, Stage.FULL_OF_OBJECTS);
        refusedIn("make(-1) if there are 24", x -> x.make(-1), INVALID, Stage.FULL_OF_OBJECTS);
        refusedIn("field(3, 3, 0): 3 is not reached", x -> x.field(3, 3, 0), INVALID, Stage.OUTSIDE, Stage.MARKING);
        refusedIn("field(3, -1, 0): 3 is not reached", x -> x.field(3, -1, 0), INVALID, Stage.OUTSIDE, Stage.MARKING);
        refusedIn("field(3, 0, 5): 3 is not reached, no 5", x -> x.field(3, 0, 5), INVALID, Stage.OUTSIDE, Stage.MARKING);
        refusedIn("field(3, 0, -2): 3 is not reached", x -> x.field(3, 0, -2), INVALID, Stage.OUTSIDE, Stage.MARKING);
        refusedIn("field(5, 0, 3): 3 is not reached, no 5", x -> x.field(5, 0, 3), INVALID, Stage.OUTSIDE, Stage.MARKING);
        refusedIn("field(0, 3, 3): 3 is not reached", x -> x.field(0, 3, 3), INVALID, Stage.OUTSIDE, Stage.MARKING);
        refusedIn("root(4, 3): 3 is not reached", x -> x.root(4, 3), INVALID, Stage.OUTSIDE, Stage.MARKING);
        refusedIn("root(-1, 3): 3 is not reached", x -> x.root(-1, 3), INVALID, Stage.OUTSIDE, Stage.MARKING);
        refusedIn("weak(4, 3): 3 is not reached", x -> x.weak(4, 3), INVALID, Stage.OUTSIDE, Stage.MARKING);
        refusedIn("weak(-1, 3): 3 is not reached", x -> x.weak(-1, 3), INVALID, Stage.OUTSIDE, Stage.MARKING);
        refusedIn("ask(2, 4): refers to none", x -> x.ask(2, 4), INVALID, Stage.values());
        refusedIn("ask(2, -1): refers to none", x -> x.ask(2, -1), INVALID, Stage.values());
        refusedIn("finish(4) with an empty list", x -> x.finish(4), INVALID, Stage.NEW, Stage.FULL_OF_OBJECTS);
        refusedIn("finish(-2) with an empty list", x -> x.finish(-2), INVALID, Stage.NEW, Stage.FULL_OF_OBJECTS);
        refusedIn("step(0) without a search", x -> x.step(0), INVALID, Stage.NEW, Stage.OUTSIDE);
        refusedIn("step(100) without a search", x -> x.step(100), INVALID, Stage.NEW, Stage.OUTSIDE);
        refusedIn("set(0) in a search", x -> x.set(0), INVALID, Stage.MARKING, Stage.FINISHING, Stage.SWEEPING);
        refusedIn("set(3) in a search", x -> x.set(3), INVALID, Stage.MARKING, Stage.FINISHING, Stage.SWEEPING);
        refusedIn("type(31) if the text has 60", x -> x.type(31), INVALID, Stage.FULL_TEXT);
        refusedIn("type(127) if the text has 60", x -> x.type(127), INVALID, Stage.FULL_TEXT);
        refusedIn("fault(3) of an empty text", x -> x.fault(3), INVALID, Stage.NEW);
        refusedIn("fault(-1) of an empty text", x -> x.fault(-1), INVALID, Stage.NEW);
        refusedIn("refers(2, 3) of none", x -> x.refers(2, 3), INVALID, Stage.NEW);
        refusedIn("grey(-1) of an empty row", x -> x.grey(-1), INVALID, Stage.NEW);
        refusedIn("objectOf(5, 8): both are wrong", x -> x.objectOf(5, 8), INVALID, Stage.NEW, Stage.OUTSIDE);
    }
}
