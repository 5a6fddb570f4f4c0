/**
 * Each sentence of the document that names a boundary case, with a test of its own: first those of "Terms", in
 * their order, then those of the promises. Arguments out of their range and refused calls: see RefusalTest.
 */
public final class BoundaryTest {
    private static final int INVALID = ReachedHeap.INVALID_ARGUMENT;
    private static final int IMPOSSIBLE = ReachedHeap.NOT_POSSIBLE;
    private static final int LIMIT = ReachedHeap.LIMIT_REACHED;
    private static final int MISSING = ReachedHeap.NOT_FOUND;
    private static final int EVERY = 0xFFFFFF;

    private static final Tests TESTS = new Tests("BoundaryTest");

    public static void main(String[] args) {
        numbersOfObjects();
        reached();
        searchBegins();
        marking();
        finishing();
        sweeping();
        careForNew();
        careForOld();
        noCare();
        objectsThatCome();
        theList();
        theCare();
        theText();
        formsOfCommands();
        causes();
        theHistory();
        changes();
        snapshotAndUndo();
        emptyThings();
        fullThings();
        manyCalls();
        TESTS.end();
    }

    // ---- helpers

    private static void test(String sentence, Runnable body) {
        TESTS.test(sentence, body);
    }

    private static void due(String call, int got, int want) {
        TESTS.due(call, got, want);
    }

    /** A new heap on which some commands were played. */
    private static ReachedHeap heap(String commands) {
        ReachedHeap x = new ReachedHeap();
        Stage.write(x, commands);
        due("commands in " + commands, x.play() >= 0 ? 1 : 0, 1);
        x.clearText();
        return x;
    }

    /** Root 0 refers to 0, field 0 of it to 1, and of that to 2. */
    private static ReachedHeap chain(int care) {
        ReachedHeap x = heap("n0;n1;f0,0,1;n1;f1,0,2;r1,-;");
        x.set(care);
        return x;
    }

    private static ReachedHeap full() {
        return Stage.FULL_OF_OBJECTS.build();
    }

    private static void dueRow(ReachedHeap x, int... numbers) {
        for (int index = 0; index < numbers.length; index++) {
            due("grey(" + index + ")", x.grey(index), numbers[index]);
        }
        due("grey(" + numbers.length + ")", x.grey(numbers.length), MISSING);
    }

    // ---- objects

    private static void numbersOfObjects() {
        test("There are 24 numbers for objects, 0 to 23", () -> {
            ReachedHeap x = new ReachedHeap();
            for (int number = 0; number < 24; number++) {
                due("make(3)", x.make(3), number);
            }
            due("the 25th", x.make(3), LIMIT);
            due("objects(0)", x.objects(0), EVERY);
        });
        test("An object has 3 fields, each refers to none at first", () -> {
            ReachedHeap x = heap("n0;");
            due("field 0", x.objectOf(0, 1), -1);
            due("field 1", x.objectOf(0, 2), -1);
            due("field 2", x.objectOf(0, 3), -1);
            due("field(0, 2, 0)", x.field(0, 2, 0), -1);
            due("field(0, 2, -1)", x.field(0, 2, -1), 0);
        });
        test("The 3 fields of neighbours are not the same", () -> {
            ReachedHeap x = heap("n0;n1;n2;f1,0,1;f1,1,1;f1,2,1;");
            for (int field = 1; field <= 3; field++) {
                due("of 0", x.objectOf(0, field), -1);
                due("of 1", x.objectOf(1, field), 1);
                due("of 2", x.objectOf(2, field), -1);
            }
        });
        test("There are 4 roots, each refers to none at first", () -> {
            ReachedHeap x = new ReachedHeap();
            for (int root = 0; root <= 3; root++) {
                due("refers(0, " + root + ")", x.refers(0, root), MISSING);
                due("make(" + root + ")", x.make(root), root);
            }
            for (int root = 0; root <= 3; root++) {
                due("refers(0, " + root + ")", x.refers(0, root), root);
            }
        });
        test("There are 4 weak holders, each refers to none at first", () -> {
            ReachedHeap x = heap("n0;n1;n2;n3;");
            for (int holder = 0; holder <= 3; holder++) {
                due("refers(1, " + holder + ")", x.refers(1, holder), MISSING);
                due("weak(" + holder + ")", x.weak(holder, 3 - holder), -1);
            }
            for (int holder = 0; holder <= 3; holder++) {
                due("refers(1, " + holder + ")", x.refers(1, holder), 3 - holder);
            }
        });
        lowestNumbers();
    }

    private static void lowestNumbers() {
        test("An object that comes gets the lowest number that no object has: 0", () -> {
            ReachedHeap x = heap("n0;n0;n0;");
            x.all();
            due("objects(0)", x.objects(0), 4);
            due("make(1)", x.make(1), 0);
            due("make(1)", x.make(1), 1);
            due("make(1)", x.make(1), 3);
        });
        test("An object that comes gets the lowest number that no object has: 23, the only one", () -> {
            ReachedHeap x = full();
            x.root(1, -1);
            x.all();
            due("objects(0)", x.objects(0), EVERY >> 1);
            due("make(1)", x.make(1), 23);
            due("make(1)", x.make(1), LIMIT);
        });
        test("A number that came again has nothing of the object that had it", () -> {
            ReachedHeap x = heap("n0;n1;f1,0,0;f1,1,1;f1,2,0;");
            x.want(1);
            x.weak(0, 1);
            x.root(1, -1);
            x.all();
            x.finish(-1);
            x.all();
            due("objects(0)", x.objects(0), 1);
            due("make(2)", x.make(2), 1);
            due("field 0", x.objectOf(1, 1), -1);
            due("field 1", x.objectOf(1, 2), -1);
            due("field 2", x.objectOf(1, 3), -1);
            due("it wants nothing", x.objectOf(1, 4), 0);
            due("its place", x.objectOf(1, 6), -1);
            due("its searches", x.objectOf(1, 7), 0);
            due("refers(1, 0)", x.refers(1, 0), MISSING);
        });
        test("A number that came again: one that wanted to be finished and was let go wants nothing", () -> {
            ReachedHeap x = heap("n0;");
            x.begin();
            x.step(2);
            x.want(0);
            x.root(0, -1);
            x.all();
            x.begin();
            x.step(99);
            due("found", x.objectOf(0, 6), 0);
            x.want(0);
            x.finish(-1);
            x.all();
            due("found again", x.objectOf(0, 6), 0);
            x.finish(-1);
            x.all();
            due("objects(6)", x.objects(6), 0);
            due("make(0)", x.make(0), 0);
            due("objectOf(0, 4)", x.objectOf(0, 4), 0);
        });
        test("It is referred to by a root then: what the root referred to is not any more", () -> {
            ReachedHeap x = heap("n2;n2;");
            due("refers(0, 2)", x.refers(0, 2), 1);
            due("objects(1)", x.objects(1), 2);
        });
    }

    private static void reached() {
        test("An object is reached if a root refers to it: not by itself", () -> {
            ReachedHeap x = heap("n0;f0,0,0;");
            due("objects(1)", x.objects(1), 1);
            x.root(0, -1);
            due("objects(1)", x.objects(1), 0);
        });
        test("... or a field of an object that is reached: not of one that is not", () -> {
            ReachedHeap x = heap("n0;n1;f0,0,1;f1,0,0;r1,-;");
            due("objects(1)", x.objects(1), 3);
            x.root(0, -1);
            due("a ring", x.objects(1), 0);
        });
        test("An object is reached by as many fields as there can be: 23", () -> {
            ReachedHeap x = full();
            x.root(0, -1);
            due("objects(1)", x.objects(1), EVERY);
            due("far(0)", x.far(0), 23);
            due("far(23)", x.far(23), 0);
            due("hangs(23)", x.hangs(23), EVERY);
            due("hangs(0)", x.hangs(0), 1);
            due("hangs(12)", x.hangs(12), 0x1FFF);
        });
        test("Any of the 3 fields reaches, and any of the 4 roots", () -> {
            for (int root = 0; root <= 3; root++) {
                for (int field = 0; field <= 2; field++) {
                    ReachedHeap x = new ReachedHeap();
                    x.make(root);
                    x.make((root + 1) % 4);
                    x.field(0, field, 1);
                    x.root((root + 1) % 4, -1);
                    due("objects(1)", x.objects(1), 3);
                    due("far(1)", x.far(1), 1);
                }
            }
        });
        test("Weak holders do not count", () -> {
            ReachedHeap x = heap("n0;");
            x.weak(0, 0);
            x.root(0, -1);
            due("objects(1)", x.objects(1), 0);
            due("objects(2)", x.objects(2), 0);
            due("wouldGo()", x.wouldGo(), 1);
        });
        test("far(): 0 if a root refers to it, though a field does too", () -> {
            ReachedHeap x = heap("n0;n1;f0,0,1;");
            due("far(1)", x.far(1), 0);
            x.root(1, -1);
            due("far(1)", x.far(1), 1);
        });
        test("far(): by the fewest fields", () -> {
            ReachedHeap x = chain(1);
            due("far(2)", x.far(2), 2);
            x.root(3, 1);
            due("far(2)", x.far(2), 1);
        });
        test("hangs(): itself too, though fields of others refer to it", () -> {
            ReachedHeap x = heap("n0;n1;f0,0,1;f1,0,0;");
            due("hangs(0)", x.hangs(0), 1);
            due("hangs(1)", x.hangs(1), 2);
            x.root(1, -1);
            due("hangs(0)", x.hangs(0), 3);
        });
    }

    // ---- a search

    private static void searchBegins() {
        test("There is no search at first", () -> {
            ReachedHeap x = new ReachedHeap();
            due("count(1)", x.count(1), 0);
            due("count(2)", x.count(2), 0);
            due("count(8)", x.count(8), MISSING);
        });
        test("Outside of searches all are white", () -> {
            ReachedHeap x = full();
            due("objects(3)", x.objects(3), EVERY);
            x.all();
            due("objects(3)", x.objects(3), EVERY);
            due("objects(4)", x.objects(4), 0);
            due("objects(5)", x.objects(5), 0);
        });
        test("When a search begins, for the roots 0 to 3 what they refer to is shaded, in this order", () -> {
            ReachedHeap x = heap("n3;n2;n1;n0;");
            due("begin()", x.begin(), 4);
            dueRow(x, 3, 2, 1, 0);
        });
        test("To shade an object: only if it is white, so not twice", () -> {
            ReachedHeap x = heap("n0;r1,0;r2,0;r3,0;");
            due("begin()", x.begin(), 1);
            dueRow(x, 0);
        });
        test("The list is shaded behind the roots, in its order, and not twice", () -> {
            ReachedHeap x = heap("n0;n1;n2;n3;");
            for (int object = 0; object <= 2; object++) {
                x.want(object);
                x.root(object, -1);
            }
            x.all();
            due("count(6)", x.count(6), 3);
            x.root(1, 1);
            due("begin()", x.begin(), 4);
            dueRow(x, 1, 3, 0, 2);
        });
        test("A search that begins counts: its steps and what it let go from 0 on", () -> {
            ReachedHeap x = heap("n0;n0;");
            x.all();
            due("objects(7)", x.objects(7), 1);
            x.begin();
            due("objects(7)", x.objects(7), 0);
            due("count(8)", x.count(8), 0);
            due("count(2)", x.count(2), 2);
            due("count(4)", x.count(4), 1);
        });
    }

    private static void marking() {
        test("A step of marking: for its fields 0 to 2, what they refer to is shaded, in this order", () -> {
            ReachedHeap x = heap("n0;n1;n2;n3;f0,2,1;f0,1,2;f0,0,3;r1,-;r2,-;r3,-;b;s1;");
            dueRow(x, 3, 2, 1);
            due("objects(5)", x.objects(5), 1);
        });
        test("What its fields refer to comes to the end of the row", () -> {
            ReachedHeap x = heap("n0;n1;n2;f0,0,2;r2,-;b;s1;");
            dueRow(x, 1, 2);
        });
        test("An object that refers to itself thrice becomes black in one step", () -> {
            ReachedHeap x = heap("n0;f0,0,0;f0,1,0;f0,2,0;b;s1;");
            dueRow(x);
            due("objects(5)", x.objects(5), 1);
        });
        test("If the row is empty ahead of a step, marking is over, instead of that: one step more", () -> {
            ReachedHeap x = heap("n0;b;s1;");
            due("the row is empty, marking is not over", x.count(1), 1);
            x.step(1);
            due("count(1)", x.count(1), 2);
            due("count(8)", x.count(8), 2);
        });
        test("Behind marking weak holders that refer to white objects refer to none, those to black ones stay", () -> {
            ReachedHeap x = chain(1);
            x.weak(0, 0);
            x.weak(1, 2);
            x.weak(2, 1);
            x.weak(3, 2);
            x.field(1, 0, -1);
            x.begin();
            x.step(2);
            due("ahead of it", x.refers(1, 3), 2);
            x.step(1);
            due("refers(1, 0)", x.refers(1, 0), 0);
            due("refers(1, 1)", x.refers(1, 1), MISSING);
            due("refers(1, 2)", x.refers(1, 2), 1);
            due("refers(1, 3)", x.refers(1, 3), MISSING);
        });
        test("Behind marking each of the 4 weak holders that refers to a white object refers to none", () -> {
            for (int holder = 0; holder <= 3; holder++) {
                ReachedHeap x = heap("n0;n1;");
                x.weak(holder, 1);
                x.root(1, -1);
                x.begin();
                x.step(1);
                due("refers(1, " + holder + ")", x.refers(1, holder), 1);
                x.step(1);
                due("refers(1, " + holder + ")", x.refers(1, holder), MISSING);
            }
        });
        test("In marking nothing is found that wants to be finished", () -> {
            ReachedHeap x = heap("n0;");
            x.want(0);
            x.root(0, -1);
            x.begin();
            x.step(1);
            due("count(6)", x.count(6), 0);
            due("objects(6)", x.objects(6), 1);
            x.step(1);
            due("count(6)", x.count(6), 1);
            due("objects(6)", x.objects(6), 0);
        });
    }

    private static void finishing() {
        test("A step of finishing: if the row is not empty, a step as in marking", () -> {
            ReachedHeap x = heap("n0;n1;f0,1,1;r1,-;");
            x.want(0);
            x.want(1);
            x.root(0, -1);
            x.begin();
            x.step(2);
            dueRow(x, 0);
            x.step(1);
            dueRow(x, 1);
            due("1 was reached by 0, so it is not found", x.count(6), 1);
            x.step(2);
            due("sweeping", x.count(1), 3);
            due("it wants it still", x.objects(6), 2);
        });
        test("The white object with the lowest number that wants to be finished is found, one a step", () -> {
            ReachedHeap x = heap("n0;n1;n2;n3;");
            x.want(3);
            x.want(1);
            x.root(1, -1);
            x.root(3, -1);
            x.begin();
            x.step(3);
            due("finishing", x.count(1), 2);
            x.step(1);
            due("objectOf(1, 6)", x.objectOf(1, 6), 0);
            due("objectOf(3, 6)", x.objectOf(3, 6), -1);
            due("objects(6)", x.objects(6), 8);
            x.step(2);
            due("objectOf(3, 6)", x.objectOf(3, 6), 1);
            due("2 goes, it wants nothing", x.wouldGo(), 0);
        });
        test("A black object that wants to be finished is not found", () -> {
            ReachedHeap x = heap("n0;");
            x.want(0);
            due("all()", x.all(), 5);
            due("count(6)", x.count(6), 0);
            due("objects(6)", x.objects(6), 1);
        });
        test("It comes to the end of the list, behind those of an earlier search", () -> {
            ReachedHeap x = heap("n0;n1;n2;");
            x.want(2);
            x.root(2, -1);
            x.all();
            x.want(0);
            x.root(0, -1);
            x.all();
            due("objectOf(2, 6)", x.objectOf(2, 6), 0);
            due("objectOf(0, 6)", x.objectOf(0, 6), 1);
            due("finish(-1)", x.finish(-1), 2);
            due("finish(-1)", x.finish(-1), 0);
        });
        test("One of the list that wants it again is not found while it is in the list", () -> {
            ReachedHeap x = heap("n0;");
            x.want(0);
            x.root(0, -1);
            x.all();
            due("want(0)", x.want(0), 1);
            x.all();
            due("count(6)", x.count(6), 1);
            due("objects(6)", x.objects(6), 1);
            x.finish(-1);
            x.all();
            due("found again", x.count(6), 1);
            due("objects(6)", x.objects(6), 0);
        });
        test("If there is none, weak holders that refer to white objects refer to none then, as behind marking", () -> {
            ReachedHeap x = heap("n0;n1;f0,0,1;r1,-;");
            x.want(0);
            x.root(0, -1);
            x.begin();
            x.step(2);
            x.weak(3, 1);
            x.weak(0, 0);
            x.field(0, 0, -1);
            x.step(1);
            due("still in finishing", x.count(1) * 10 + x.refers(1, 3), 21);
            x.step(1);
            due("in sweeping", x.count(1), 3);
            due("refers(1, 3)", x.refers(1, 3), MISSING);
            due("refers(1, 0)", x.refers(1, 0), 0);
        });
        test("Behind finishing each of the 4 weak holders that refers to a white object refers to none", () -> {
            for (int holder = 0; holder <= 3; holder++) {
                ReachedHeap x = heap("n0;n1;f0,0,1;r1,-;");
                x.want(0);
                x.root(0, -1);
                x.begin();
                x.step(2);
                x.weak(holder, 1);
                x.field(0, 0, -1);
                x.step(1);
                due("refers(1, " + holder + ")", x.refers(1, holder), 1);
                x.step(1);
                due("refers(1, " + holder + ")", x.refers(1, holder), MISSING);
            }
        });
        test("Sweeping begins with the number 0", () -> {
            ReachedHeap x = heap("b;s2;");
            due("count(1)", x.count(1), 3);
            due("count(7)", x.count(7), 0);
            due("count(8)", x.count(8), 2);
        });
    }

    private static void sweeping() {
        test("The object with the lowest number from that on is looked at: numbers without one are no steps", () -> {
            ReachedHeap x = heap("n0;n0;n0;n0;n0;");
            x.all();
            due("objects(0)", x.objects(0), 16);
            x.begin();
            x.step(3);
            due("count(7)", x.count(7), 0);
            x.step(1);
            due("count(7)", x.count(7), 5);
            due("4 is white", x.objectOf(4, 0), 0);
        });
        test("If it is white, it is let go; otherwise it becomes white", () -> {
            ReachedHeap x = heap("n0;n1;r0,-;b;s3;");
            due("objects(5)", x.objects(5), 2);
            due("step(1)", x.step(1), 1);
            due("objects(0)", x.objects(0), 2);
            due("count(7)", x.count(7), 1);
            due("step(1)", x.step(1), 0);
            due("objects(5)", x.objects(5), 0);
            due("objects(3)", x.objects(3), 2);
            due("count(7)", x.count(7), 2);
        });
        test("If there is no such object, the search is over (this is the step): an empty heap", () -> {
            ReachedHeap x = heap("b;s2;");
            due("step(1)", x.step(1), 0);
            due("count(1)", x.count(1), 0);
            due("count(8)", x.count(8), 3);
            due("count(7)", x.count(7), MISSING);
        });
        test("Sweeping looks from the number behind it on: 24 behind the last", () -> {
            ReachedHeap x = full();
            x.begin();
            x.step(26);
            due("count(7)", x.count(7), 0);
            x.step(24);
            due("count(7)", x.count(7), 24);
            due("count(1)", x.count(1), 3);
            due("late()", x.late(), 0);
            due("step(99)", x.step(99), 0);
            due("count(8)", x.count(8), 51);
        });
        test("late(): 23 is below 24", () -> {
            ReachedHeap x = full();
            x.begin();
            x.step(50);
            x.root(0, -1);
            x.root(1, -1);
            due("count(7)", x.count(7), 24);
            due("late()", x.late(), 24);
            x.step(1);
            due("without a search", x.late(), 0);
        });
        test("late(): the number itself from which on sweeping looks is not below it", () -> {
            ReachedHeap x = heap("n0;n1;b;s4;");
            x.root(0, -1);
            due("0 and 1 are black", x.count(7) * 10 + x.late(), 1);
            x.step(1);
            due("0 is white and below", x.count(7) * 10 + x.late(), 11);
        });
        test("late(): what is white and ahead is not late", () -> {
            ReachedHeap x = heap("n0;n1;r0,-;b;s3;");
            due("late()", x.late(), 0);
            due("count(7)", x.count(7), 0);
        });
        test("What refers to an object that is let go refers to none then: fields of others that are let go later", () -> {
            ReachedHeap x = heap("n0;n1;f1,0,0;f1,1,0;f1,2,0;r0,-;r1,-;b;s2;");
            due("ahead", x.objectOf(1, 1), 0);
            due("step(1)", x.step(1), 1);
            due("field 0", x.objectOf(1, 1), -1);
            due("field 1", x.objectOf(1, 2), -1);
            due("field 2", x.objectOf(1, 3), -1);
        });
        test("What refers to one with a higher number keeps it until then", () -> {
            ReachedHeap x = heap("n0;n1;f0,0,1;f0,1,0;r0,-;r1,-;b;s2;s1;");
            due("objects(0)", x.objects(0), 2);
            due("make(3)", x.make(3), 0);
            due("objectOf(0, 1)", x.objectOf(0, 1), -1);
            due("step(1)", x.step(1), 1);
            due("objects(7)", x.objects(7), 3);
        });
        test("objects(7): by the numbers that they had, also if a number came again", () -> {
            ReachedHeap x = heap("n0;r0,-;b;s3;n0;");
            due("objects(0)", x.objects(0), 1);
            due("objects(7)", x.objects(7), 1);
            due("wouldGo()", x.wouldGo(), 0);
            due("all()", x.all(), 1);
            due("objects(0)", x.objects(0), 1);
        });
    }

    // ---- what is done meanwhile

    private static void careForNew() {
        test("Care 1: a field of a black object is made to refer to an object, that is shaded", () -> {
            ReachedHeap x = chain(1);
            x.begin();
            x.step(1);
            x.field(0, 2, 2);
            dueRow(x, 1, 2);
        });
        test("Care 1: a field of a grey object is not cared for", () -> {
            ReachedHeap x = chain(1);
            x.begin();
            x.field(0, 2, 2);
            dueRow(x, 0);
        });
        test("Care 1: a field of a white object is not cared for", () -> {
            ReachedHeap x = chain(1);
            x.begin();
            x.field(1, 2, 2);
            dueRow(x, 0);
        });
        test("Care 1: a root is made to refer to an object, that is shaded", () -> {
            ReachedHeap x = chain(1);
            x.begin();
            x.root(3, 2);
            dueRow(x, 0, 2);
        });
        test("Care 1: what was referred to is not shaded, none is nothing to shade", () -> {
            ReachedHeap x = chain(1);
            x.begin();
            x.step(1);
            x.field(1, 0, -1);
            x.root(0, -1);
            x.field(0, 0, -1);
            dueRow(x, 1);
        });
        test("Care 1: what is black is not shaded again", () -> {
            ReachedHeap x = chain(1);
            x.begin();
            x.step(3);
            x.root(3, 2);
            x.field(0, 1, 0);
            dueRow(x);
            due("objects(5)", x.objects(5), 7);
        });
        test("Care 1 in finishing as in marking", () -> {
            ReachedHeap x = heap("n0;n1;n2;f1,0,2;r2,-;");
            x.want(1);
            x.root(1, -1);
            x.begin();
            x.step(2);
            x.step(1);
            dueRow(x, 1);
            x.root(3, 2);
            dueRow(x, 1, 2);
        });
    }

    private static void careForOld() {
        test("Care 2: a field is made to refer to something else, what it referred to is shaded, of a white object too", () -> {
            ReachedHeap x = chain(2);
            x.begin();
            x.field(1, 0, 0);
            dueRow(x, 0, 2);
        });
        test("Care 2: of a grey object too", () -> {
            ReachedHeap x = chain(2);
            x.begin();
            x.field(0, 0, 2);
            dueRow(x, 0, 1);
        });
        test("Care 2: of a black object too", () -> {
            ReachedHeap x = chain(2);
            x.begin();
            x.make(1);
            x.field(3, 0, 2);
            dueRow(x, 0);
            x.field(3, 0, 0);
            dueRow(x, 0, 2);
        });
        test("Care 2: none is something else", () -> {
            ReachedHeap x = chain(2);
            x.begin();
            x.field(1, 0, -1);
            dueRow(x, 0, 2);
        });
        test("Care 2: the same is nothing else", () -> {
            ReachedHeap x = chain(2);
            x.begin();
            x.field(1, 0, 2);
            dueRow(x, 0);
        });
        test("Care 2: if it referred to none, there is nothing to shade", () -> {
            ReachedHeap x = chain(2);
            x.begin();
            x.field(0, 1, 2);
            x.root(3, 2);
            dueRow(x, 0);
        });
        test("Care 2: a root", () -> {
            ReachedHeap x = chain(2);
            x.begin();
            x.root(3, 2);
            x.root(3, 1);
            dueRow(x, 0, 2);
            x.root(3, -1);
            dueRow(x, 0, 2, 1);
        });
        test("Care 2: the same root again is nothing else", () -> {
            ReachedHeap x = chain(2);
            x.begin();
            x.root(3, 2);
            x.root(3, 2);
            dueRow(x, 0);
        });
        test("Care 2: make() writes a root too", () -> {
            ReachedHeap x = chain(2);
            x.begin();
            x.root(3, 2);
            x.make(3);
            dueRow(x, 0, 2);
            due("what comes is black", x.objectOf(3, 0), 2);
        });
        test("Care 2 in finishing as in marking", () -> {
            ReachedHeap x = heap("n0;n1;n2;f1,0,2;r2,-;");
            x.set(2);
            x.want(1);
            x.root(1, -1);
            x.begin();
            x.step(2);
            x.step(1);
            dueRow(x, 1);
            x.field(1, 0, -1);
            dueRow(x, 1, 2);
        });
    }

    private static void noCare() {
        test("Outside of searches nothing is shaded", () -> {
            for (int care = 1; care <= 2; care++) {
                ReachedHeap x = chain(care);
                x.weak(0, 2);
                x.root(3, 2);
                x.field(0, 0, -1);
                x.ask(0, 1);
                x.make(3);
                due("objects(3)", x.objects(3), 15);
                dueRow(x);
            }
        });
        test("In sweeping nothing is shaded", () -> {
            for (int care = 1; care <= 2; care++) {
                ReachedHeap x = chain(care);
                x.weak(0, 2);
                x.begin();
                x.step(5);
                due("sweeping", x.count(1), 3);
                x.step(3);
                x.root(3, 2);
                x.field(0, 0, 2);
                x.ask(0, 1);
                due("objects(3)", x.objects(3), 7);
                dueRow(x);
            }
        });
        test("finish() in sweeping shades nothing", () -> {
            ReachedHeap x = heap("n0;");
            x.want(0);
            x.root(0, -1);
            x.begin();
            x.step(4);
            x.step(1);
            due("count(7)", x.count(7), 1);
            due("finish(2)", x.finish(2), 0);
            due("objectOf(0, 0)", x.objectOf(0, 0), 0);
            dueRow(x);
        });
        test("weak() shades nothing, in any part and with any care", () -> {
            for (int care = 1; care <= 2; care++) {
                ReachedHeap x = chain(care);
                x.begin();
                x.weak(0, 2);
                x.weak(0, 1);
                x.weak(0, -1);
                dueRow(x, 0);
            }
        });
        test("ask(): Behind that it is shaded, by either care, in finishing too", () -> {
            for (int care = 1; care <= 2; care++) {
                ReachedHeap x = heap("n0;n1;f0,0,1;r1,-;");
                x.set(care);
                x.want(0);
                x.root(0, -1);
                x.begin();
                x.step(2);
                x.weak(0, 1);
                dueRow(x, 0);
                due("ask(0, 3)", x.ask(0, 3), 1);
                dueRow(x, 0, 1);
            }
        });
        test("ask(): with care 2 what the root referred to goes ahead of it", () -> {
            ReachedHeap x = chain(2);
            x.weak(1, 2);
            x.begin();
            x.root(3, 1);
            x.ask(1, 3);
            dueRow(x, 0, 1, 2);
        });
        test("ask(): the holder refers to it still", () -> {
            ReachedHeap x = chain(1);
            x.weak(3, 2);
            due("ask(3, 3)", x.ask(3, 3), 2);
            due("refers(1, 3)", x.refers(1, 3), 2);
            due("ask(3, 0)", x.ask(3, 0), 2);
        });
    }

    private static void objectsThatCome() {
        test("An object that comes outside of searches is white", () -> {
            due("objectOf(0, 0)", heap("n0;").objectOf(0, 0), 0);
        });
        test("An object that comes in marking is black, and not in the row", () -> {
            ReachedHeap x = heap("b;n0;");
            due("objectOf(0, 0)", x.objectOf(0, 0), 2);
            dueRow(x);
        });
        test("An object that comes in finishing is black", () -> {
            ReachedHeap x = heap("b;s1;n0;");
            due("count(1)", x.count(1), 2);
            due("objectOf(0, 0)", x.objectOf(0, 0), 2);
        });
        test("One that comes in sweeping is black if sweeping still has to look at its number: at this very number", () -> {
            ReachedHeap x = heap("b;s2;n0;");
            due("count(7)", x.count(7), 0);
            due("objectOf(0, 0)", x.objectOf(0, 0), 2);
            due("all()", x.all(), 2);
            due("objects(0)", x.objects(0), 1);
        });
        test("One that comes in sweeping is black: at a number above", () -> {
            ReachedHeap x = heap("n0;b;s3;n1;n2;");
            due("count(7)", x.count(7), 0);
            due("objectOf(1, 0)", x.objectOf(1, 0), 2);
            due("objectOf(2, 0)", x.objectOf(2, 0), 2);
            due("all()", x.all(), 4);
        });
        test("... and otherwise white: at the number just below", () -> {
            ReachedHeap x = heap("n0;r0,-;b;s3;n1;");
            due("count(7)", x.count(7), 1);
            due("objectOf(0, 0)", x.objectOf(0, 0), 0);
            due("all()", x.all(), 1);
            due("objects(0)", x.objects(0), 1);
        });
        test("... and otherwise white: the number 23 behind all", () -> {
            ReachedHeap x = full();
            x.root(1, -1);
            x.begin();
            x.step(49);
            due("count(7)", x.count(7), 24);
            due("make(1)", x.make(1), 23);
            due("objectOf(23, 0)", x.objectOf(23, 0), 0);
            x.step(1);
            due("objects(0)", x.objects(0), EVERY);
        });
        test("count(3), objectOf(.., 7): searches that began since it came, not the one in which it came", () -> {
            ReachedHeap x = heap("n0;b;n1;");
            due("objectOf(0, 7)", x.objectOf(0, 7), 1);
            due("objectOf(1, 7)", x.objectOf(1, 7), 0);
            x.all();
            x.begin();
            due("objectOf(0, 7)", x.objectOf(0, 7), 2);
            due("objectOf(1, 7)", x.objectOf(1, 7), 1);
            due("count(3)", x.count(3), 2);
        });
    }

    private static void theList() {
        test("The list refers to them like roots do, until they are finished", () -> {
            ReachedHeap x = chain(1);
            x.want(1);
            x.field(0, 0, -1);
            x.all();
            due("by roots", x.objects(1), 1);
            due("by roots or the list", x.objects(2), 7);
            due("wouldGo()", x.wouldGo(), 0);
            x.finish(-1);
            due("no more", x.objects(2), 1);
            due("wouldGo()", x.wouldGo(), 6);
        });
        test("finish(): in marking it is shaded, also without a root", () -> {
            for (int care = 1; care <= 2; care++) {
                ReachedHeap x = heap("n0;n1;");
                x.set(care);
                x.want(1);
                x.root(1, -1);
                x.all();
                x.begin();
                due("finish(-1)", x.finish(-1), 1);
                dueRow(x, 0, 1);
                x.all();
                due("objects(0)", x.objects(0), 3);
                x.all();
                due("objects(0)", x.objects(0), 1);
            }
        });
        test("finish(): the first object of the list, the others come nearer", () -> {
            ReachedHeap x = heap("n0;n1;n2;");
            for (int object = 0; object <= 2; object++) {
                x.want(object);
                x.root(object, -1);
            }
            x.all();
            for (int object = 0; object <= 2; object++) {
                due("its place", x.objectOf(object, 6), 0);
                due("finish(-1)", x.finish(-1), object);
                due("its place", x.objectOf(object, 6), -1);
                due("count(5)", x.count(5), object + 1);
                due("count(6)", x.count(6), 2 - object);
            }
            due("finish(-1)", x.finish(-1), IMPOSSIBLE);
        });
        test("finish(): each of the 4 roots can refer to it then", () -> {
            for (int root = 0; root <= 3; root++) {
                ReachedHeap x = heap("n0;");
                x.want(0);
                x.root(0, -1);
                x.all();
                due("finish(" + root + ")", x.finish(root), 0);
                due("refers(0, " + root + ")", x.refers(0, root), 0);
                due("objects(1)", x.objects(1), 1);
            }
        });
        test("ask(): each of the 4 holders can be asked, each of the 4 roots can refer to it then", () -> {
            for (int holder = 0; holder <= 3; holder++) {
                for (int root = 0; root <= 3; root++) {
                    ReachedHeap x = heap("n0;");
                    x.weak(holder, 0);
                    x.root(0, -1);
                    due("ask(" + holder + ", " + root + ")", x.ask(holder, root), 0);
                    due("refers(0, " + root + ")", x.refers(0, root), 0);
                    due("objects(1)", x.objects(1), 1);
                }
            }
        });
        test("finish(): -1 writes no root", () -> {
            ReachedHeap x = heap("n0;n1;n2;n3;");
            x.want(1);
            x.root(1, -1);
            x.all();
            x.finish(-1);
            due("refers(0, 0)", x.refers(0, 0), 0);
            due("refers(0, 1)", x.refers(0, 1), MISSING);
            due("refers(0, 2)", x.refers(0, 2), 2);
            due("refers(0, 3)", x.refers(0, 3), 3);
        });
    }

    private static void theCare() {
        test("The care is 1 at first, and can be 1 or 2", () -> {
            ReachedHeap x = new ReachedHeap();
            due("count(9)", x.count(9), 1);
            due("set(2)", x.set(2), 1);
            due("count(9)", x.count(9), 2);
            due("set(1)", x.set(1), 2);
            due("count(9)", x.count(9), 1);
        });
        test("To set what it is already is a change too", () -> {
            ReachedHeap x = new ReachedHeap();
            due("set(1)", x.set(1), 1);
            due("count(10)", x.count(10), 1);
        });
        test("It can be set outside of searches alone: up to the step with which one is over", () -> {
            ReachedHeap x = new ReachedHeap();
            x.begin();
            for (int part = 1; part <= 3; part++) {
                due("count(1)", x.count(1), part);
                due("set(2)", x.set(2), IMPOSSIBLE);
                x.step(1);
            }
            due("set(2)", x.set(2), 1);
        });
    }

    // ---- texts

    private static void theText() {
        test("A text of at most 60 characters, initially empty", () -> {
            ReachedHeap x = new ReachedHeap();
            due("count(11)", x.count(11), 0);
            for (int length = 1; length <= 60; length++) {
                due("type(59)", x.type(59), length);
            }
            due("the 61st", x.type(59), LIMIT);
            due("count(11)", x.count(11), 60);
        });
        test("All 95 characters from 32 to 126 can be typed", () -> {
            ReachedHeap x = new ReachedHeap();
            for (int character = 32; character <= 126; character++) {
                due("type(" + character + ")", x.type(character), 1);
                due("clearText()", x.clearText(), 1);
            }
        });
        test("A text of 60 characters: its last one counts", () -> {
            ReachedHeap x = new ReachedHeap();
            Stage.write(x, "n000;n001;f000,000,001;r001,-;n003;b;s001;s1;s1;s1;s1;s00099");
            due("count(11)", x.count(11), 60);
            due("fault(0)", x.fault(0), 54);
            due("fault(1)", x.fault(1), 1);
            x.clearText();
            Stage.write(x, "n000;n001;f000,000,001;r001,-;n003;b;s001;s1;s1;s1;s01;s099;");
            due("count(11)", x.count(11), 60);
            due("fault(0)", x.fault(0), MISSING);
            due("play()", x.play(), 12);
        });
        test("A text of 60 characters without its last \";\" has a fault there", () -> {
            ReachedHeap x = new ReachedHeap();
            Stage.write(x, "n0;".repeat(19) + "n00;");
            due("count(11)", x.count(11), 60);
            due("fault(0)", x.fault(0), 57);
            x.clearText();
            Stage.write(x, "n0;".repeat(19) + "n0;");
            due("fault(0)", x.fault(0), MISSING);
            due("play()", x.play(), 20);
        });
        test("A full text: clearText() makes room for 60 again", () -> {
            ReachedHeap x = Stage.FULL_TEXT.build();
            due("clearText()", x.clearText(), 60);
            due("clearText()", x.clearText(), 0);
            due("type(126)", x.type(126), 1);
        });
        test("What was in the text is not seen behind its end", () -> {
            ReachedHeap x = new ReachedHeap();
            Stage.write(x, "n0;n1;");
            x.clearText();
            Stage.write(x, "n0");
            due("fault(0)", x.fault(0), 0);
            due("fault(1)", x.fault(1), 1);
            x.type(';');
            due("play()", x.play(), 1);
        });
    }

    private static void dueFault(String text, int position, int reason, int cause) {
        ReachedHeap x = chain(1);
        Stage.write(x, text);
        due("fault(0) of " + text, x.fault(0), position);
        due("fault(1) of " + text, x.fault(1), reason);
        due("fault(2) of " + text, x.fault(2), cause);
        due("play() of " + text, x.play() == IMPOSSIBLE ? 1 : 0, position == MISSING ? 0 : 1);
    }

    private static void good(String... texts) {
        for (String text : texts) {
            test("a command of the form: " + text, () -> dueFault(text, MISSING, MISSING, MISSING));
        }
    }

    /** Alone, and behind commands that are done first, so that the position is not 0 alone. */
    private static void bad(String... texts) {
        for (String text : texts) {
            test("no command of the form: " + text, () -> {
                dueFault(text, 0, 1, MISSING);
                dueFault("n0;b;" + text, 5, 1, MISSING);
                dueFault("n3;" + text + ",n4;", 3, 1, MISSING);
            });
        }
    }

    private static void formsOfCommands() {
        good("n0;", "n3;", "n00;", "n003;", "f0,0,0;", "f0,2,-;", "f002,02,1;", "f00,000,000;", "r0,-;", "r3,2;", "r003,002;",
            "b;", "b;s1;", "b;s99;", "b;s099;", "b;s01;", "b;s99;b;s99;b;");
        bad("n", "n;", "n 0;", "n0 ;", " n0;", "n-;", "n-1;", "n0000;", "n0,;", "n0,0;", "N0;", "nn0;", "n+1;");
        bad("f", "f;", "f0;", "f0,;", "f0,0;", "f0,0,;", "f0,0,0", "f,0,0;", "f0,,0;", "f-,0,0;", "f0,-,0;", "f0,0,--;", "f0,0,-0;",
            "f0,0,-1;", "f0,0,0,;", "f0000,0,0;", "f0,0000,0;", "f0,0,0000;", "f 0,0,0;", "f0 ,0,0;", "F0,0,0;", "f0;0;0;");
        bad("r", "r;", "r0;", "r0,;", "r,0;", "r-,0;", "r0,0", "r0,-", "r0,--;", "r0,-1;", "r0,0,0;", "r0000,0;", "r0,0000;", "R0,0;");
        bad("b", "b0;", "b ;", "b,;", "bb;", "B;", "s", "s;", "s1", "s-;", "s-1;", "s0001;", "s1,;", "s1,1;", "S1;");
        bad(";", ";;", " ", "~", "0;", "-;", ",;", "/0;", "n/;", "n:;", "x0;");
        test("An empty command between two is none", () -> dueFault("n0;;n0;", 3, 1, MISSING));
        test("The digits are 0 to 9", () -> {
            for (int digit = 0; digit <= 9; digit++) {
                dueFault("n" + digit + ";", digit <= 3 ? MISSING : 0, digit <= 3 ? MISSING : 2, digit <= 3 ? MISSING : INVALID);
            }
        });
    }

    private static void fault(String sentence, String text, int position, int cause) {
        test(sentence + ": " + text, () -> dueFault(text, position, 2, cause));
    }

    private static void causes() {
        fault("its cause is the error code that the call returns", "n4;", 0, INVALID);
        fault("the largest number", "n999;", 0, INVALID);
        fault("the largest number", "s999;", 0, INVALID);
        fault("steps one too small", "b;s0;", 2, INVALID);
        fault("steps one too large", "b;s100;", 2, INVALID);
        fault("steps without a search", "s1;", 0, IMPOSSIBLE);
        fault("steps behind one that is over", "b;s99;s1;", 6, IMPOSSIBLE);
        fault("a field one too large", "f0,3,1;", 0, INVALID);
        fault("an object that is not there", "f3,0,1;", 0, INVALID);
        fault("an object that is not there", "f0,0,3;", 0, INVALID);
        fault("an object one too large", "f24,0,0;", 0, INVALID);
        fault("an object one too large", "f0,0,24;", 0, INVALID);
        fault("an object one too large", "r0,24;", 0, INVALID);
        fault("an object far off", "f256,0,0;", 0, INVALID);
        fault("a root one too large", "r4,0;", 0, INVALID);
        fault("an object that is not reached", "f0,0,-;f1,0,2;", 7, IMPOSSIBLE);
        fault("an object that is not reached", "f1,0,-;f0,0,2;", 7, IMPOSSIBLE);
        fault("an object that is not reached", "r0,-;r0,0;", 5, IMPOSSIBLE);
        fault("a search in a search", "b;b;", 2, IMPOSSIBLE);
        fault("the first one, when those ahead of it are done", "n0;n0;n0;r0,9;", 9, INVALID);
        fault("... though one behind it is not of the form", "n4;x", 0, INVALID);
        test("its cause is LIMIT_REACHED if there are 24 then", () -> {
            ReachedHeap x = heap("n0;".repeat(20));
            Stage.write(x, "n0;n0;n0;n0;n0;");
            due("fault(0)", x.fault(0), 12);
            due("fault(1)", x.fault(1), 2);
            due("fault(2)", x.fault(2), LIMIT);
        });
        test("a command may use what those ahead of it made", () -> {
            ReachedHeap x = new ReachedHeap();
            Stage.write(x, "n0;f0,0,0;r3,0;b;s1;");
            due("fault(0)", x.fault(0), MISSING);
            due("play()", x.play(), 5);
            due("refers(0, 3)", x.refers(0, 3), 0);
        });
        test("the fault is that of the present state", () -> {
            ReachedHeap x = new ReachedHeap();
            Stage.write(x, "b;");
            due("fault(1)", x.fault(1), MISSING);
            x.play();
            due("fault(1)", x.fault(1), 2);
            due("play()", x.play(), IMPOSSIBLE);
            x.step(99);
            due("fault(1)", x.fault(1), MISSING);
        });
        test("fault(): NOT_FOUND if the text has no fault (also if it is empty)", () -> {
            for (Stage stage : Stage.values()) {
                ReachedHeap x = stage.build();
                x.clearText();
                for (int what = 0; what <= 2; what++) {
                    due("fault(" + what + ")", x.fault(what), MISSING);
                }
            }
        });
    }

    // ---- changes

    private static void theHistory() {
        test("A history of at most 4 states; the fifth change drops the oldest", () -> {
            ReachedHeap x = new ReachedHeap();
            for (int made = 1; made <= 5; made++) {
                x.make(0);
                due("count(10)", x.count(10), Math.min(made, 4));
            }
            for (int left = 3; left >= 0; left--) {
                due("undo()", x.undo(), left);
                due("count(10)", x.count(10), left);
                due("count(0)", x.count(0), left + 1);
            }
            due("undo()", x.undo(), IMPOSSIBLE);
            due("count(0)", x.count(0), 1);
        });
        test("Behind undo() the history fills again, and the right states are dropped", () -> {
            ReachedHeap x = new ReachedHeap();
            for (int round = 0; round < 7; round++) {
                for (int made = 0; made < 5; made++) {
                    x.make(made % 4);
                }
                int there = x.count(0);
                due("undo()", x.undo(), 3);
                due("undo()", x.undo(), 2);
                due("count(0)", x.count(0), there - 2);
                x.set(2);
                due("count(10)", x.count(10), 3);
                due("undo()", x.undo(), 2);
                due("undo()", x.undo(), 1);
                due("count(0)", x.count(0), there - 3);
            }
        });
        test("A refused change drops no state of a full history", () -> {
            ReachedHeap x = new ReachedHeap();
            for (int made = 0; made < 6; made++) {
                x.make(0);
            }
            due("make(4)", x.make(4), INVALID);
            due("step(1)", x.step(1), IMPOSSIBLE);
            due("ask(0, 0)", x.ask(0, 0), MISSING);
            due("count(10)", x.count(10), 4);
            x.undo();
            x.undo();
            x.undo();
            due("undo()", x.undo(), 0);
            due("count(0)", x.count(0), 2);
        });
        test("A change that answers -1 is a change, no error", () -> {
            ReachedHeap x = heap("n0;");
            due("root(3, -1)", x.root(3, -1), -1);
            due("count(10)", x.count(10), 2);
            due("weak(3, -1)", x.weak(3, -1), -1);
            due("count(10)", x.count(10), 3);
            due("field(0, 0, -1)", x.field(0, 0, -1), -1);
            due("count(10)", x.count(10), 4);
        });
    }

    private static void oneChange(String call, Stage stage, Stage.Use use) {
        test(call + " is a change: it records everything before it", () -> {
            dueUndone(call, stage, use, x -> 0);
            dueUndone(call + " and all()", stage, use, x -> x.all());
            dueUndone(call + " and restore()", stage, use, x -> x.restore());
            dueUndone(call + " and make(0)", stage, use, x -> x.make(0));
        });
    }

    private static void dueUndone(String call, Stage stage, Stage.Use use, Stage.Use behind) {
        ReachedHeap x = stage.build();
        ReachedHeap other = stage.build();
        int states = x.count(10);
        due(call, use.on(x) > INVALID ? 1 : 0, 1);
        due("count(10)", x.count(10), Math.min(states + 1, 4));
        due("undo()", x.undo(), Math.min(states, 3));
        due("behind it", behind.on(x), behind.on(other));
        due("as before it", withoutHistory(Stage.look(x)).equals(withoutHistory(Stage.look(other))) ? 1 : 0, 1);
    }

    /** The number of states alone may differ: a full history lost its oldest one. */
    private static String withoutHistory(String look) {
        String[] answers = look.split(" ");
        answers[10] = "";
        return String.join(" ", answers);
    }

    private static void noChange(String call, Stage.Use use) {
        test(call + " is no change", () -> {
            for (Stage stage : Stage.values()) {
                ReachedHeap x = stage.build();
                int states = x.count(10);
                use.on(x);
                due("count(10), " + stage, x.count(10), states);
            }
        });
    }

    /** A question must not leave a trace, in whatever state. */
    private static void question(String call, Stage.Use use) {
        test(call + " changes nothing", () -> {
            for (Stage stage : Stage.values()) {
                due("it leaves " + stage + " as it was", stage.isLeftAsItWas(use) ? 1 : 0, 1);
            }
        });
    }

    private static void changes() {
        oneChange("make(3)", Stage.OUTSIDE, x -> x.make(3));
        oneChange("make(3) in marking", Stage.MARKING, x -> x.make(3));
        oneChange("make(3) in sweeping", Stage.SWEEPING, x -> x.make(3));
        oneChange("field(0, 0, -1)", Stage.OUTSIDE, x -> x.field(0, 0, -1));
        oneChange("field(0, 0, -1) with care 2", Stage.MARKING_CARE_2, x -> x.field(0, 0, 4));
        oneChange("root(0, 4)", Stage.OUTSIDE, x -> x.root(0, 4));
        oneChange("weak(0, 4)", Stage.FINISHING, x -> x.weak(0, 4));
        oneChange("ask(1, 0)", Stage.OUTSIDE, x -> x.ask(1, 0));
        oneChange("ask(1, 0) in marking", Stage.MARKING, x -> x.ask(1, 0));
        oneChange("want(1)", Stage.OUTSIDE, x -> x.want(1));
        oneChange("finish(1)", Stage.OUTSIDE, x -> x.finish(1));
        oneChange("finish(-1)", Stage.FINISHING, x -> x.finish(-1));
        oneChange("begin()", Stage.NEW, x -> x.begin());
        oneChange("begin()", Stage.OUTSIDE, x -> x.begin());
        oneChange("step(1) in marking", Stage.MARKING, x -> x.step(1));
        oneChange("step(99) in finishing", Stage.FINISHING, x -> x.step(99));
        oneChange("step(99) in sweeping", Stage.SWEEPING, x -> x.step(99));
        oneChange("all()", Stage.NEW, x -> x.all());
        oneChange("all() of a new search", Stage.OUTSIDE, x -> x.all());
        oneChange("all() of the rest", Stage.MARKING, x -> x.all());
        oneChange("set(2)", Stage.OUTSIDE, x -> x.set(2));
        oneChange("restore()", Stage.SWEEPING, x -> x.restore());
        oneChange("play()", Stage.OUTSIDE, x -> x.play());
        oneChange("play() of an empty text", Stage.NEW, x -> x.play());
        noChange("keep()", x -> x.keep());
        noChange("type()", x -> x.type('b'));
        noChange("clearText()", x -> x.clearText());
        question("wouldGo()", x -> x.wouldGo());
        question("late()", x -> x.late());
        question("fault(0)", x -> x.fault(0));
        question("fault(2)", x -> x.fault(2));
        question("hangs(0)", x -> x.hangs(0));
        question("far(0)", x -> x.far(0));
        question("grey(0)", x -> x.grey(0));
        question("refers(1, 0)", x -> x.refers(1, 0));
        question("objectOf(0, 6)", x -> x.objectOf(0, 6));
        question("objects(2)", x -> x.objects(2));
        question("count(7)", x -> x.count(7));
    }

    private static void snapshotAndUndo() {
        test("keep(): in place of the one that was", () -> {
            ReachedHeap x = heap("n0;");
            due("keep()", x.keep(), 1);
            x.make(0);
            due("keep()", x.keep(), 2);
            x.make(0);
            due("restore()", x.restore(), 2);
        });
        test("restore(): the snapshot stays, also behind changes to what was restored", () -> {
            ReachedHeap x = Stage.MARKING.build();
            x.keep();
            String first = Stage.look(x);
            ReachedHeap y = Stage.MARKING.build();
            y.keep();
            for (int round = 0; round < 3; round++) {
                y.all();
                y.make(0);
                due("restore()", y.restore(), 5);
            }
            due("the same", withoutHistory(first).equals(withoutHistory(Stage.look(y))) ? 1 : 0, 1);
            due("count(12)", y.count(12), 1);
        });
        test("restore() in each part of a search brings back that part", () -> {
            for (Stage stage : Stage.values()) {
                ReachedHeap x = stage.build();
                x.keep();
                x.all();
                x.all();
                x.restore();
                ReachedHeap y = stage.build();
                y.keep();
                due("restored " + stage, withoutHistory(Stage.look(x)).equals(withoutHistory(Stage.look(y))) ? 1 : 0, 1);
            }
        });
        test("A snapshot of a new heap can be restored: 0 objects", () -> {
            ReachedHeap x = new ReachedHeap();
            due("keep()", x.keep(), 0);
            x.make(0);
            x.set(2);
            due("restore()", x.restore(), 0);
            due("count(3)", x.count(3), 0);
            due("count(9)", x.count(9), 1);
            due("count(8)", x.count(8), MISSING);
        });
        test("undo() leaves the text and the snapshot", () -> {
            ReachedHeap x = heap("n0;");
            x.make(0);
            x.keep();
            Stage.write(x, "b;");
            due("undo()", x.undo(), 1);
            due("count(11)", x.count(11), 2);
            due("count(12)", x.count(12), 1);
            due("restore()", x.restore(), 2);
        });
        test("undo() of the change ahead of the first snapshot leaves that", () -> {
            ReachedHeap x = new ReachedHeap();
            x.make(0);
            x.keep();
            due("undo()", x.undo(), 0);
            due("count(12)", x.count(12), 1);
            due("restore()", x.restore(), 1);
            due("undo()", x.undo(), 0);
            due("count(0)", x.count(0), 0);
        });
        test("undo() brings back all counts", () -> {
            ReachedHeap x = Stage.OUTSIDE.build();
            int[] before = new int[10];
            for (int what = 0; what < 10; what++) {
                before[what] = x.count(what);
            }
            x.finish(-1);
            x.all();
            x.make(0);
            x.set(2);
            for (int undone = 0; undone < 4; undone++) {
                x.undo();
            }
            for (int what = 0; what < 10; what++) {
                due("count(" + what + ")", x.count(what), before[what]);
            }
        });
        test("play() of several commands is one change, restored by one undo()", () -> {
            ReachedHeap x = new ReachedHeap();
            Stage.write(x, "n0;n0;n0;b;s99;");
            due("play()", x.play(), 5);
            due("count(10)", x.count(10), 1);
            due("undo()", x.undo(), 0);
            due("count(3)", x.count(3), 0);
            due("count(11)", x.count(11), 15);
        });
    }

    // ---- what is empty, what is full

    private static void emptyThings() {
        test("A new object: a heap without objects", () -> {
            ReachedHeap x = new ReachedHeap();
            for (int what = 0; what <= 7; what++) {
                due("objects(" + what + ")", x.objects(what), 0);
            }
            for (int what = 0; what <= 12; what++) {
                int want = what == 7 || what == 8 ? MISSING : what == 9 ? 1 : 0;
                due("count(" + what + ")", x.count(what), want);
            }
            for (int object = 0; object < 24; object++) {
                due("objectOf", x.objectOf(object, 0), INVALID);
                due("far", x.far(object), INVALID);
                due("hangs", x.hangs(object), INVALID);
                due("want", x.want(object), INVALID);
            }
        });
        test("Without objects: begin() 0, wouldGo() 0, late() 0, keep() 0", () -> {
            ReachedHeap x = new ReachedHeap();
            due("wouldGo()", x.wouldGo(), 0);
            due("late()", x.late(), 0);
            due("keep()", x.keep(), 0);
            due("begin()", x.begin(), 0);
            due("wouldGo()", x.wouldGo(), 0);
            due("late()", x.late(), 0);
        });
        test("Without objects: all() does 3 steps, step() lets nothing go", () -> {
            ReachedHeap x = new ReachedHeap();
            due("all()", x.all(), 3);
            x.begin();
            due("step(3)", x.step(3), 0);
            due("count(1)", x.count(1), 0);
            due("objects(7)", x.objects(7), 0);
        });
        test("With all roots empty begin() shades nothing, and all objects are let go", () -> {
            ReachedHeap x = full();
            x.root(0, -1);
            x.root(1, -1);
            due("wouldGo()", x.wouldGo(), EVERY);
            due("begin()", x.begin(), 0);
            due("step(99)", x.step(99), 24);
            due("count(8)", x.count(8), 27);
            due("objects(0)", x.objects(0), 0);
            due("objects(7)", x.objects(7), EVERY);
            due("count(4)", x.count(4), 24);
            due("refers(1, 3)", x.refers(1, 3), MISSING);
        });
        test("play(): one change, also if there are none", () -> {
            ReachedHeap x = new ReachedHeap();
            due("play()", x.play(), 0);
            due("count(10)", x.count(10), 1);
            due("undo()", x.undo(), 0);
        });
    }

    private static void fullThings() {
        test("24 objects: the longest list, found one a step, and finished in its order", () -> {
            ReachedHeap x = wantingOnes();
            due("count(6)", x.count(6), 24);
            due("objects(2)", x.objects(2), EVERY);
            due("objects(1)", x.objects(1), 0);
            for (int object = 0; object < 24; object++) {
                due("objectOf(" + object + ", 6)", x.objectOf(object, 6), object);
            }
            for (int object = 0; object < 24; object++) {
                due("finish(3)", x.finish(3), object);
            }
            due("finish(3)", x.finish(3), IMPOSSIBLE);
            due("count(5)", x.count(5), 24);
        });
        test("24 objects: the longest row", () -> {
            ReachedHeap x = wantingOnes();
            due("begin()", x.begin(), 24);
            due("objects(4)", x.objects(4), EVERY);
            for (int index = 0; index < 24; index++) {
                due("grey(" + index + ")", x.grey(index), index);
            }
            due("grey(24)", x.grey(24), MISSING);
            x.step(24);
            due("objects(5)", x.objects(5), EVERY);
        });
        test("24 objects: the most steps of a search, all within step(99)", () -> {
            ReachedHeap x = wantingOnes();
            due("count(8)", x.count(8), 75);
            due("want(0)", x.want(0), 1);
            x.begin();
            due("step(99)", x.step(99), 0);
            due("count(1)", x.count(1), 0);
            due("count(8)", x.count(8), 51);
        });
        test("step(): until it is over, and no step more", () -> {
            ReachedHeap x = heap("n0;b;");
            x.step(4);
            due("count(1)", x.count(1), 3);
            due("step(1)", x.step(1), 0);
            due("count(8)", x.count(8), 5);
            due("count(1)", x.count(1), 0);
        });
        test("Number 23 in every place", () -> {
            ReachedHeap x = full();
            due("weak(0, 23)", x.weak(0, 23), -1);
            due("root(2, 23)", x.root(2, 23), -1);
            due("field(23, 2, 23)", x.field(23, 2, 23), -1);
            due("objectOf(23, 3)", x.objectOf(23, 3), 23);
            due("want(23)", x.want(23), 1);
            due("ask(0, 3)", x.ask(0, 3), 23);
            due("objects(6)", x.objects(6), 1 << 23);
            due("hangs(23)", x.hangs(23), 1 << 23);
        });
        test("want(): returns how many objects want it then: up to 24", () -> {
            ReachedHeap x = full();
            for (int object = 0; object < 24; object++) {
                due("want(" + object + ")", x.want(object), object + 1);
            }
            due("objects(6)", x.objects(6), EVERY);
        });
    }

    /** All 24 wanted to be finished, nothing referred to them, and a search found them. */
    private static ReachedHeap wantingOnes() {
        ReachedHeap x = new ReachedHeap();
        for (int object = 0; object < 24; object++) {
            x.make(0);
            x.want(object);
        }
        x.root(0, -1);
        due("wouldGo()", x.wouldGo(), 0);
        due("all()", x.all(), 75);
        return x;
    }

    private static void manyCalls() {
        test("An object is used for at most 512 calls: every one is answered", () -> {
            ReachedHeap x = heap("n0;");
            // Five calls were made by heap(), three are made behind these.
            for (int call = 6; call < 510; call++) {
                due("all()", x.all(), 5);
            }
            due("count(2)", x.count(2), 504);
            due("objectOf(0, 7)", x.objectOf(0, 7), 504);
            due("count(3)", x.count(3), 1);
        });
        test("512 calls: objects come and go", () -> {
            ReachedHeap x = new ReachedHeap();
            for (int round = 0; round < 250; round++) {
                due("make(0)", x.make(0), round % 2);
                due("all()", x.all(), round == 0 ? 5 : 6);
            }
            due("count(3)", x.count(3), 250);
            due("count(4)", x.count(4), 249);
            due("count(10)", x.count(10), 4);
        });
        test("512 calls: undo and change again", () -> {
            ReachedHeap x = new ReachedHeap();
            for (int round = 0; round < 170; round++) {
                due("make(1)", x.make(1), 0);
                due("undo()", x.undo(), 0);
                due("count(3)", x.count(3), 0);
            }
        });
    }
}
