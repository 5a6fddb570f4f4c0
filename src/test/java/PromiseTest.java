/** For each promise of the document, 1 to 28: ordinary calls, its edges, and wrong calls. */
public final class PromiseTest {
    private static final int INVALID = -11;
    private static final int IMPOSSIBLE = -12;
    private static final int LIMIT = -13;
    private static final int MISSING = -14;
    private static final int FAR_OFF = Integer.MAX_VALUE;
    private static final int FAR_BELOW = Integer.MIN_VALUE;

    private static int promise;
    private static int passed;
    private static int failed;
    private static boolean isWrong;

    public static void main(String[] args) {
        for (promise = 1; promise <= 28; promise++) {
            isWrong = false;
            test(promise);
            passed += isWrong ? 0 : 1;
            failed += isWrong ? 1 : 0;
        }
        System.out.println("PromiseTest: " + passed + " passed, " + failed + " failed");
        if (failed != 0) {
            System.exit(1);
        }
    }

    private static void test(int number) {
        switch (number) {
            case 1: newObject(); break;
            case 2: make(); break;
            case 3: field(); break;
            case 4: root(); break;
            case 5: weak(); break;
            case 6: ask(); break;
            case 7: want(); break;
            case 8: finish(); break;
            case 9: begin(); break;
            case 10: step(); break;
            case 11: all(); break;
            case 12: set(); break;
            case 13: objectOf(); break;
            case 14: refers(); break;
            case 15: grey(); break;
            case 16: objects(); break;
            case 17: count(); break;
            case 18: far(); break;
            case 19: hangs(); break;
            case 20: wouldGo(); break;
            case 21: late(); break;
            case 22: keep(); break;
            case 23: restore(); break;
            case 24: undo(); break;
            case 25: type(); break;
            case 26: clearText(); break;
            case 27: fault(); break;
            case 28: play(); break;
            default: due("a test of this promise", 0, 1); break;
        }
    }

    private static void due(String call, int got, int want) {
        if (got != want) {
            isWrong = true;
            System.out.println("promise " + promise + ": " + call + " answered " + got + ", due is " + want);
        }
    }

    private static void type(ReachedHeap x, String text) {
        for (int i = 0; i < text.length(); i++) {
            x.type(text.charAt(i));
        }
    }

    private static void text(ReachedHeap x, String text) {
        x.clearText();
        type(x, text);
    }

    private static ReachedHeap heap(String commands) {
        ReachedHeap x = new ReachedHeap();
        text(x, commands);
        due("play() of " + commands, x.play() >= 0 ? 1 : 0, 1);
        x.clearText();
        return x;
    }

    /** Root 0 refers to 0, 0.0 to 1, 1.0 to 2; nothing else. */
    private static ReachedHeap chain() {
        return heap("n0;n1;f0,0,1;n1;f1,0,2;r1,-;");
    }

    private static void newObject() {
        ReachedHeap x = new ReachedHeap();
        for (int what = 0; what <= 6; what++) {
            due("count(" + what + ")", x.count(what), 0);
            due("objects(" + what + ")", x.objects(what), 0);
        }
        due("objects(7)", x.objects(7), 0);
        due("count(7)", x.count(7), MISSING);
        due("count(8)", x.count(8), MISSING);
        due("count(9)", x.count(9), 1);
        due("count(10)", x.count(10), 0);
        due("count(11)", x.count(11), 0);
        due("count(12)", x.count(12), 0);
        for (int number = 0; number <= 3; number++) {
            due("refers(0)", x.refers(0, number), MISSING);
            due("refers(1)", x.refers(1, number), MISSING);
        }
        due("objectOf(0, 0)", x.objectOf(0, 0), INVALID);
        due("undo()", x.undo(), IMPOSSIBLE);
        ReachedHeap other = new ReachedHeap();
        other.make(0);
        due("objects(0) beside another", x.objects(0), 0);
    }

    private static void make() {
        ReachedHeap x = new ReachedHeap();
        due("make(3)", x.make(3), 0);
        due("make(3)", x.make(3), 1);
        due("refers(0, 3)", x.refers(0, 3), 1);
        due("objects(0)", x.objects(0), 3);
        due("objectOf(1, 1)", x.objectOf(1, 1), -1);
        due("make(-1)", x.make(-1), INVALID);
        due("make(4)", x.make(4), INVALID);
        due("make", x.make(FAR_OFF), INVALID);
        due("make", x.make(FAR_BELOW), INVALID);
        x.all();
        due("the lowest free number", x.make(0), 0);
        for (int number = 2; number < 24; number++) {
            due("make(0)", x.make(0), number);
        }
        due("make(0) of 25", x.make(0), LIMIT);
        due("make(4) of 25", x.make(4), INVALID);
        due("count(3)", x.count(3), 25);
        due("refers(0, 0)", x.refers(0, 0), 23);

        x = chain();
        x.want(0);
        x.field(0, 0, 0);
        x.root(0, -1);
        x.finish(x.all() > 0 ? -1 : 0);
        x.all();
        due("all are let go", x.objects(0), 0);
        x.make(1);
        x.make(1);
        for (int what = 1; what <= 4; what++) {
            due("nothing stays of the last 0", x.objectOf(0, what), what == 4 ? 0 : -1);
            due("nothing stays of the last 1", x.objectOf(1, what), what == 4 ? 0 : -1);
        }

        x = chain();
        x.begin();
        due("make(1) in marking", x.make(1), 3);
        due("its colour", x.objectOf(3, 0), 2);
        x.step(5);
        due("part", x.count(1), 3);
        x.step(1);
        due("make(1) in sweeping, ahead", x.make(1), 4);
        due("its colour", x.objectOf(4, 0), 2);

        x = heap("n0;n1;r0,-;b;s3;s2;");
        due("part", x.count(1), 3);
        due("0 is let go", x.objects(0), 2);
        due("make(2) in sweeping, behind", x.make(2), 0);
        due("its colour", x.objectOf(0, 0), 0);
        due("the other's", x.objectOf(1, 0), 0);
        due("steps left", x.all(), 1);
        due("it stays", x.objects(0), 3);

        x = heap("n0;n1;r1,-;");
        x.set(2);
        x.begin();
        x.make(0);
        due("care 2 shades only what it wrote over", x.grey(0), 0);
        due("and that once", x.grey(1), MISSING);
    }

    private static void field() {
        ReachedHeap x = chain();
        due("field(0, 0, 2)", x.field(0, 0, 2), 1);
        due("field(0, 0, 2)", x.field(0, 0, 2), 2);
        due("field(1, 0, 2)", x.field(1, 0, 2), IMPOSSIBLE);
        due("field(0, 1, 1)", x.field(0, 1, 1), IMPOSSIBLE);
        due("field(1, 3, 2)", x.field(1, 3, 2), INVALID);
        due("field(1, -1, 2)", x.field(1, -1, 2), INVALID);
        due("field(1, 0, 3)", x.field(1, 0, 3), INVALID);
        due("field(1, 0, -2)", x.field(1, 0, -2), INVALID);
        due("field(3, 0, 1)", x.field(3, 0, 1), INVALID);
        due("field(-1, 0, 0)", x.field(-1, 0, 0), INVALID);
        due("field(24, 0, 0)", x.field(24, 0, 0), INVALID);
        due("field", x.field(0, FAR_OFF, 0), INVALID);
        due("field", x.field(FAR_BELOW, 0, FAR_BELOW), INVALID);
        due("field(1, 0, -1)", x.field(1, 0, -1), IMPOSSIBLE);
        due("objectOf(1, 1)", x.objectOf(1, 1), 2);
        due("field(0, 2, 0)", x.field(0, 2, 0), -1);
        due("field(2, 1, 0)", x.field(2, 1, 0), -1);
        due("field(0, 0, -1)", x.field(0, 0, -1), 2);
        due("field(2, 1, -1)", x.field(2, 1, -1), IMPOSSIBLE);

        // care 1: only the fields of black objects, and only what is new there
        x = heap("n0;n1;n2;f0,0,1;f0,1,2;r1,-;r2,-;b;");
        due("grey writer", x.field(0, 2, 1), -1);
        due("grey(1)", x.grey(1), MISSING);
        x.field(0, 0, -1);
        x.field(0, 2, -1);
        due("care 1 lets the old one be", x.objectOf(1, 0), 0);
        x.step(1);
        due("2 by 0", x.grey(0), 2);
        x.make(3);
        x.field(3, 0, 2);
        due("already grey: not twice", x.grey(1), MISSING);
        x = heap("n0;n1;f1,0,0;f0,0,1;b;s1;");
        due("black 0, grey 1", x.objects(5) * 100 + x.objects(4), 102);

        // care 1 shades a white object that a black one is made to refer to
        x = heap("n0;n1;f0,0,1;n2;f1,0,2;r1,-;r2,-;b;");
        x.make(3);
        x.field(3, 1, 2);
        due("care 1 shades", x.objects(4), 5);
        due("at the end", x.grey(1), 2);

        // care 2: what was referred to ahead of it, whatever the writer's colour, if it changes
        x = chain();
        x.set(2);
        x.begin();
        due("field(1, 0, 2)", x.field(1, 0, 2), 2);
        due("the same again is nothing else", x.objects(4), 1);
        x.make(3);
        x.field(3, 0, 2);
        due("care 2 lets the new one be", x.objects(4), 1);
        due("field(1, 0, 0)", x.field(1, 0, 0), 2);
        due("care 2 shades", x.objects(4), 5);
        due("field(0, 0, -1)", x.field(0, 0, -1), 1);
        due("none is something else", x.grey(2), 1);

        // the list counts as reaching
        x = heap("n0;");
        x.want(0);
        x.root(0, -1);
        x.all();
        due("field(0, 0, 0)", x.field(0, 0, 0), -1);
        x.finish(-1);
        due("field(0, 0, -1)", x.field(0, 0, -1), IMPOSSIBLE);
    }

    private static void root() {
        ReachedHeap x = chain();
        due("root(3, 2)", x.root(3, 2), -1);
        due("root(3, 1)", x.root(3, 1), 2);
        due("root(3, -1)", x.root(3, -1), 1);
        due("root(3, -1)", x.root(3, -1), -1);
        due("root(4, 0)", x.root(4, 0), INVALID);
        due("root(-1, 0)", x.root(-1, 0), INVALID);
        due("root(0, 3)", x.root(0, 3), INVALID);
        due("root(0, -2)", x.root(0, -2), INVALID);
        due("root(0, 24)", x.root(0, 24), INVALID);
        due("root", x.root(FAR_OFF, FAR_BELOW), INVALID);
        due("root(0, 2)", x.root(0, 2), 0);
        due("root(1, 0)", x.root(1, 0), IMPOSSIBLE);
        due("root(5, 0)", x.root(5, 0), INVALID);
        due("refers(0, 1)", x.refers(0, 1), MISSING);

        x = chain();
        x.begin();
        x.root(1, 2);
        due("care 1 shades the new one", x.objects(4), 5);
        x.root(1, -1);
        due("and no old one", x.objects(4), 5);
        x = heap("n0;n1;n2;");
        x.set(2);
        x.field(0, 0, 1);
        x.root(1, -1);
        x.begin();
        due("grey ones", x.objects(4), 5);
        x.root(3, 1);
        due("care 2: no new one", x.objects(4), 5);
        x.root(3, 1);
        due("care 2: nothing else", x.objects(4), 5);
        x.root(3, 2);
        due("care 2: the old one", x.grey(2), 1);

        x = chain();
        x.step(1);
        x.all();
        x.begin();
        x.step(6);
        due("part", x.count(1), 3);
        x.root(1, 2);
        due("no care in sweeping", x.count(1) * 10 + x.objects(4), 30);
    }

    private static void weak() {
        ReachedHeap x = chain();
        due("weak(0, 2)", x.weak(0, 2), -1);
        due("weak(0, 1)", x.weak(0, 1), 2);
        due("weak(3, 2)", x.weak(3, 2), -1);
        due("weak(0, -1)", x.weak(0, -1), 1);
        due("weak(0, -1)", x.weak(0, -1), -1);
        due("weak(4, 0)", x.weak(4, 0), INVALID);
        due("weak(-1, 0)", x.weak(-1, 0), INVALID);
        due("weak(0, 3)", x.weak(0, 3), INVALID);
        due("weak(0, -2)", x.weak(0, -2), INVALID);
        due("weak", x.weak(FAR_BELOW, FAR_OFF), INVALID);
        x.field(0, 0, -1);
        due("a weak holder does not reach", x.objects(1), 1);
        due("weak(1, 2)", x.weak(1, 2), IMPOSSIBLE);
        due("weak(9, 2)", x.weak(9, 2), INVALID);
        due("weak(3, -1)", x.weak(3, -1), 2);
        due("weak(3, 0)", x.weak(3, 0), -1);
        x.weak(1, 0);
        x.root(0, -1);
        x.begin();
        due("refers(1, 1) in marking", x.refers(1, 1), 0);
        x.step(1);
        due("part", x.count(1), 2);
        due("refers(1, 1) behind marking", x.refers(1, 1), MISSING);
        due("refers(1, 3) behind marking", x.refers(1, 3), MISSING);

        // emptied once more behind finishing: a white object is named through the list meanwhile
        x = chain();
        x.want(0);
        x.root(0, -1);
        x.begin();
        x.step(2);
        due("0 is in the list", x.objects(2), 7);
        due("weak(2, 2)", x.weak(2, 2), -1);
        due("2 is white still", x.objectOf(2, 0), 0);
        x.step(4);
        due("2 was marked", x.refers(1, 2), 2);
        x = chain();
        x.want(0);
        x.root(0, -1);
        x.begin();
        x.step(2);
        x.weak(2, 2);
        x.field(1, 0, -1);
        x.step(2);
        due("refers(1, 2) in finishing", x.refers(1, 2), 2);
        x.step(1);
        due("part", x.count(1), 3);
        due("refers(1, 2) behind finishing", x.refers(1, 2), MISSING);
    }

    private static void ask() {
        ReachedHeap x = chain();
        due("ask(0, 0)", x.ask(0, 0), MISSING);
        x.weak(0, 2);
        due("ask(0, 4)", x.ask(0, 4), INVALID);
        due("ask(0, -1)", x.ask(0, -1), INVALID);
        due("ask(4, 0)", x.ask(4, 0), INVALID);
        due("ask(-1, 0)", x.ask(-1, 0), INVALID);
        due("ask(1, 4)", x.ask(1, 4), INVALID);
        due("ask", x.ask(FAR_OFF, FAR_BELOW), INVALID);
        due("ask(0, 3)", x.ask(0, 3), 2);
        due("refers(0, 3)", x.refers(0, 3), 2);
        due("refers(1, 0)", x.refers(1, 0), 2);
        x.root(3, -1);
        x.root(0, -1);
        due("ask(0, 1) brings back", x.ask(0, 1), 2);
        due("objects(1)", x.objects(1), 4);

        for (int care = 1; care <= 2; care++) {
            x = chain();
            x.set(care);
            x.weak(1, 2);
            x.make(3);
            x.field(0, 0, -1);
            x.begin();
            due("white", x.objects(3), 6);
            due("ask(1, 3)", x.ask(1, 3), 2);
            due("shaded by either care", x.objects(4), 13);
            x.all();
            due("so it stays", x.objects(0), 13);
        }

        // care 2: the root's old object goes ahead of the asked one
        x = chain();
        x.set(2);
        x.weak(0, 2);
        x.begin();
        x.root(1, 1);
        x.ask(0, 1);
        due("grey(1)", x.grey(1), 1);
        due("grey(2)", x.grey(2), 2);

        // in sweeping nothing is shaded
        x = heap("n0;b;s3;");
        x.weak(0, 0);
        due("part", x.count(1), 3);
        x.step(1);
        due("ask(0, 1)", x.ask(0, 1), 0);
        due("colour", x.objectOf(0, 0), 0);
    }

    private static void want() {
        ReachedHeap x = chain();
        due("want(2)", x.want(2), 1);
        due("want(0)", x.want(0), 2);
        due("want(0)", x.want(0), IMPOSSIBLE);
        due("want(3)", x.want(3), INVALID);
        due("want(-1)", x.want(-1), INVALID);
        due("want(24)", x.want(24), INVALID);
        due("want", x.want(FAR_OFF), INVALID);
        due("objects(6)", x.objects(6), 5);
        x.field(0, 0, -1);
        due("want(1)", x.want(1), IMPOSSIBLE);
        due("want(2)", x.want(2), IMPOSSIBLE);
        x.all();
        due("2 is in the list", x.objectOf(2, 6), 0);
        due("1 was let go", x.objects(0), 5);
        due("want(2) by the list", x.want(2), 2);
    }

    private static void finish() {
        ReachedHeap x = heap("n0;n0;n0;n0;");
        due("finish(0)", x.finish(0), IMPOSSIBLE);
        due("finish(4)", x.finish(4), INVALID);
        due("finish(-2)", x.finish(-2), INVALID);
        due("finish", x.finish(FAR_OFF), INVALID);
        x = heap("n0;n1;n2;n3;");
        x.want(3);
        x.want(1);
        x.want(2);
        x.root(1, -1);
        x.root(2, -1);
        x.root(3, -1);
        x.all();
        due("count(6)", x.count(6), 3);
        due("the lowest number is first", x.objectOf(1, 6), 0);
        due("objectOf(3, 6)", x.objectOf(3, 6), 2);
        due("finish(2)", x.finish(2), 1);
        due("refers(0, 2)", x.refers(0, 2), 1);
        due("objectOf(3, 6)", x.objectOf(3, 6), 1);
        due("objectOf(1, 4)", x.objectOf(1, 4), 0);
        due("finish(-1)", x.finish(-1), 2);
        due("objects(2)", x.objects(2), 11);
        due("count(5)", x.count(5), 2);
        due("finish(2)", x.finish(2), 3);
        due("finish(-1)", x.finish(-1), IMPOSSIBLE);
        due("finish(9)", x.finish(9), INVALID);
        x.all();
        due("objects(0)", x.objects(0), 9);
        due("objects(7)", x.objects(7), 6);

        // what is finished in a search stays in it
        x = heap("n0;n1;");
        x.want(1);
        x.root(1, -1);
        x.all();
        due("begin() with a list", x.begin(), 2);
        due("behind the roots", x.grey(1), 1);
        x.finish(-1);
        x.all();
        due("objects(0)", x.objects(0), 3);
        x.all();
        due("objects(0)", x.objects(0), 1);

        // a list as long as there are objects
        x = new ReachedHeap();
        for (int number = 0; number < 24; number++) {
            x.make(0);
            x.want(number);
        }
        x.root(0, -1);
        due("all() finds 24", x.all(), 24 + 24 + 24 + 3);
        due("count(6)", x.count(6), 24);
        due("objectOf(23, 6)", x.objectOf(23, 6), 23);
        due("begin()", x.begin(), 24);
        due("grey(23)", x.grey(23), 23);
        due("grey(24)", x.grey(24), MISSING);
        due("step(24)", x.step(24), 0);
        due("objects(5)", x.objects(5), 0xFFFFFF);
        due("finish(-1)", x.finish(-1), 0);
        due("finish(3)", x.finish(3), 1);
        due("objectOf(23, 6)", x.objectOf(23, 6), 21);

        // care 2 shades what the root referred to
        x = heap("n0;n1;n2;f0,0,2;r2,-;");
        x.set(2);
        x.want(1);
        x.root(1, -1);
        x.all();
        x.begin();
        x.root(3, 2);
        due("finish(3)", x.finish(3), 1);
        due("grey(2)", x.grey(2), 2);
    }

    private static void begin() {
        ReachedHeap x = new ReachedHeap();
        due("begin() of nothing", x.begin(), 0);
        due("begin()", x.begin(), IMPOSSIBLE);
        due("count(1)", x.count(1), 1);
        x = heap("n2;n0;n3;");
        x.root(1, 1);
        due("begin()", x.begin(), 3);
        due("grey(0)", x.grey(0), 1);
        due("grey(1)", x.grey(1), 0);
        due("grey(2)", x.grey(2), 2);
        due("count(2)", x.count(2), 1);
        due("count(8)", x.count(8), 0);
        x.step(99);
        due("begin()", x.begin(), 3);
        due("count(2)", x.count(2), 2);
        due("count(8)", x.count(8), 0);
        x.step(5);
        due("begin() in sweeping", x.begin(), IMPOSSIBLE);
    }

    private static void step() {
        ReachedHeap x = heap("n0;n1;f0,2,1;n1;");
        due("step(1)", x.step(1), IMPOSSIBLE);
        due("step(0)", x.step(0), INVALID);
        due("step(100)", x.step(100), INVALID);
        due("step(-1)", x.step(-1), INVALID);
        due("step", x.step(FAR_BELOW), INVALID);
        x.make(1);
        x.want(0);
        x.begin();
        due("step(0)", x.step(0), INVALID);
        due("step(1)", x.step(1), 0);
        due("0 is black", x.objects(5), 1);
        due("row", x.grey(0) * 10 + x.grey(1), 31);
        due("step(2)", x.step(2), 0);
        due("marking", x.count(1), 1);
        due("step(1)", x.step(1), 0);
        due("finishing", x.count(1), 2);
        due("step(1)", x.step(1), 0);
        due("sweeping", x.count(1) * 10 + x.count(7), 30);
        due("step(1)", x.step(1), 0);
        due("0 is white", x.objectOf(0, 0), 0);
        due("from", x.count(7), 1);
        due("step(2)", x.step(2), 1);
        due("objects(0)", x.objects(0), 11);
        due("from", x.count(7), 3);
        due("step(99)", x.step(99), 0);
        due("count(1)", x.count(1), 0);
        due("count(8)", x.count(8), 10);
        due("step(99)", x.step(99), IMPOSSIBLE);
        due("all are white", x.objects(3), 11);
        x.root(0, -1);
        x.root(1, -1);
        x.begin();
        due("step(99)", x.step(99), 1);
        due("the list keeps 0 and 1", x.objects(0), 3);

        // a row is worked off in finishing too, one object in each step, then the next is found
        x = heap("n0;n1;n2;n3;f2,1,3;f2,0,0;");
        x.want(2);
        x.want(3);
        for (int root = 0; root < 4; root++) {
            x.root(root, -1);
        }
        x.begin();
        x.step(2);
        due("found", x.grey(0), 2);
        due("it is in the list", x.objectOf(2, 6), 0);
        due("wanting", x.objects(6), 8);
        x.step(1);
        due("fields from 0 on", x.grey(0), 0);
        due("fields up to 2", x.grey(1), 3);
        x.step(3);
        due("3 hung on 2", x.count(1), 3);
        due("it wants it still", x.objects(6), 8);
        due("step(99)", x.step(99), 1);
        due("objectOf(2, 1)", x.objectOf(2, 1), 0);

        // what refers to one that is let go refers to none then
        x = heap("n0;n0;n0;f2,0,2;");
        x.root(0, -1);
        x.all();
        x = heap("n1;n0;f1,0,0;r1,-;r0,-;b;s2;s1;");
        due("field of one let go later", x.objectOf(1, 1), -1);
    }

    private static void all() {
        ReachedHeap x = new ReachedHeap();
        due("all() of nothing", x.all(), 3);
        due("count(8)", x.count(8), 3);
        due("count(2)", x.count(2), 1);
        x = chain();
        due("all()", x.all(), 9);
        x.begin();
        x.step(4);
        due("all() of the rest", x.all(), 5);
        due("count(8)", x.count(8), 9);
        due("count(2)", x.count(2), 2);
        x.want(0);
        x.root(0, -1);
        due("all() with finding", x.all(), 10);
        due("count(10)", x.count(10), 4);
        x = heap("n0;n0;");
        x.all();
        due("objects(7)", x.objects(7), 1);
        due("count(10)", x.count(10), 2);
    }

    private static void set() {
        ReachedHeap x = new ReachedHeap();
        due("set(2)", x.set(2), 1);
        due("set(2)", x.set(2), 2);
        due("set(1)", x.set(1), 2);
        due("set(0)", x.set(0), INVALID);
        due("set(3)", x.set(3), INVALID);
        due("set", x.set(FAR_BELOW), INVALID);
        due("count(9)", x.count(9), 1);
        due("count(10)", x.count(10), 3);
        x.begin();
        due("set(2) in a search", x.set(2), IMPOSSIBLE);
        due("set(1) in a search", x.set(1), IMPOSSIBLE);
        due("set(3) in a search", x.set(3), INVALID);
        x.step(2);
        due("set(2) in sweeping", x.set(2), IMPOSSIBLE);
        x.step(1);
        due("set(2)", x.set(2), 1);
    }

    private static void objectOf() {
        ReachedHeap x = chain();
        x.field(0, 1, 2);
        x.field(0, 2, 0);
        due("objectOf(0, 1)", x.objectOf(0, 1), 1);
        due("objectOf(0, 2)", x.objectOf(0, 2), 2);
        due("objectOf(0, 3)", x.objectOf(0, 3), 0);
        due("objectOf(2, 3)", x.objectOf(2, 3), -1);
        due("objectOf(0, 8)", x.objectOf(0, 8), INVALID);
        due("objectOf(0, -1)", x.objectOf(0, -1), INVALID);
        due("objectOf(3, 0)", x.objectOf(3, 0), INVALID);
        due("objectOf(-1, 0)", x.objectOf(-1, 0), INVALID);
        due("objectOf(24, 0)", x.objectOf(24, 0), INVALID);
        due("objectOf", x.objectOf(32, 0), INVALID);
        due("objectOf", x.objectOf(FAR_OFF, FAR_OFF), INVALID);
        due("objectOf(1, 4)", x.objectOf(1, 4), 0);
        x.want(1);
        due("objectOf(1, 4)", x.objectOf(1, 4), 1);
        due("objectOf(1, 5)", x.objectOf(1, 5), 1);
        due("objectOf(1, 6)", x.objectOf(1, 6), -1);
        due("objectOf(1, 7)", x.objectOf(1, 7), 0);
        x.field(0, 0, -1);
        due("objectOf(1, 5)", x.objectOf(1, 5), 0);
        x.begin();
        due("objectOf(1, 7)", x.objectOf(1, 7), 1);
        due("colours", x.objectOf(0, 0) * 10 + x.objectOf(1, 0), 10);
        x.make(1);
        due("objectOf(3, 7)", x.objectOf(3, 7), 0);
        x.all();
        x.all();
        due("objectOf(1, 7)", x.objectOf(1, 7), 2);
        due("objectOf(3, 7)", x.objectOf(3, 7), 1);
        due("objectOf(1, 6)", x.objectOf(1, 6), 0);
        due("objectOf(1, 5) in the list", x.objectOf(1, 5), 0);
    }

    private static void refers() {
        ReachedHeap x = heap("n0;n3;");
        x.weak(3, 1);
        due("refers(0, 0)", x.refers(0, 0), 0);
        due("refers(0, 3)", x.refers(0, 3), 1);
        due("refers(0, 1)", x.refers(0, 1), MISSING);
        due("refers(1, 3)", x.refers(1, 3), 1);
        due("refers(1, 0)", x.refers(1, 0), MISSING);
        due("refers(2, 0)", x.refers(2, 0), INVALID);
        due("refers(-1, 0)", x.refers(-1, 0), INVALID);
        due("refers(0, 4)", x.refers(0, 4), INVALID);
        due("refers(1, 4)", x.refers(1, 4), INVALID);
        due("refers(1, -1)", x.refers(1, -1), INVALID);
        due("refers", x.refers(FAR_OFF, FAR_BELOW), INVALID);
        x.root(3, -1);
        due("count(4)", x.count(4), 0);
        x.all();
        due("refers(1, 3)", x.refers(1, 3), MISSING);
    }

    private static void grey() {
        ReachedHeap x = chain();
        due("grey(0)", x.grey(0), MISSING);
        due("grey(-1)", x.grey(-1), INVALID);
        due("grey", x.grey(FAR_BELOW), INVALID);
        due("grey", x.grey(FAR_OFF), MISSING);
        x.root(1, 2);
        x.begin();
        due("grey(0)", x.grey(0), 0);
        due("grey(1)", x.grey(1), 2);
        due("grey(2)", x.grey(2), MISSING);
        x.step(1);
        due("grey(0)", x.grey(0), 2);
        due("grey(1)", x.grey(1), 1);
        x.step(2);
        due("grey(0)", x.grey(0), MISSING);
        x.all();
        for (int i = 0; i < 21; i++) {
            x.make(2);
            x.field(i + 3, 0, i == 0 ? 1 : i + 2);
        }
        x.begin();
        due("grey(23)", x.grey(23), MISSING);
        due("grey(24)", x.grey(24), MISSING);
    }

    private static void objects() {
        ReachedHeap x = heap("n0;n1;f0,0,1;n1;n2;r2,-;");
        x.want(2);
        x.root(1, -1);
        due("objects(0)", x.objects(0), 15);
        due("objects(1)", x.objects(1), 3);
        due("objects(2)", x.objects(2), 3);
        due("objects(3)", x.objects(3), 15);
        due("objects(6)", x.objects(6), 4);
        due("objects(7)", x.objects(7), 0);
        due("objects(8)", x.objects(8), INVALID);
        due("objects(-1)", x.objects(-1), INVALID);
        due("objects", x.objects(FAR_BELOW), INVALID);
        x.begin();
        x.step(1);
        due("objects(3)", x.objects(3), 12);
        due("objects(4)", x.objects(4), 2);
        due("objects(5)", x.objects(5), 1);
        x.step(3);
        due("objects(2)", x.objects(2), 7);
        due("objects(1)", x.objects(1), 3);
        due("objects(6)", x.objects(6), 0);
        x.all();
        due("objects(7)", x.objects(7), 8);
        due("make(3)", x.make(3), 3);
        due("objects(7) by the numbers that they had", x.objects(7), 8);
        x.begin();
        due("objects(7) of the latest", x.objects(7), 0);
        x = new ReachedHeap();
        for (int i = 0; i < 24; i++) {
            x.make(0);
        }
        due("objects(0) of 24", x.objects(0), 0xFFFFFF);
    }

    private static void count() {
        ReachedHeap x = heap("n0;n1;n2;");
        x.want(1);
        x.root(1, -1);
        x.root(2, -1);
        due("count(10)", x.count(10), 4);
        due("count(7)", x.count(7), MISSING);
        due("count(8)", x.count(8), MISSING);
        x.begin();
        due("count(8)", x.count(8), 0);
        due("count(7)", x.count(7), MISSING);
        x.step(5);
        due("count(1)", x.count(1), 3);
        due("count(7)", x.count(7), 0);
        due("count(6)", x.count(6), 1);
        x.step(3);
        due("count(7)", x.count(7), 3);
        due("count(4)", x.count(4), 1);
        due("count(0)", x.count(0), 2);
        x.step(1);
        due("count(7)", x.count(7), MISSING);
        due("count(8)", x.count(8), 9);
        x.finish(-1);
        due("count(5)", x.count(5), 1);
        due("count(6)", x.count(6), 0);
        x.all();
        due("count(4)", x.count(4), 2);
        due("count(3)", x.count(3), 3);
        due("count(2)", x.count(2), 2);
        due("count(9)", x.count(9), 1);
        x.set(2);
        due("count(9)", x.count(9), 2);
        type(x, "ab");
        due("count(11)", x.count(11), 2);
        due("count(12)", x.count(12), 0);
        x.keep();
        due("count(12)", x.count(12), 1);
        due("count(13)", x.count(13), INVALID);
        due("count(-1)", x.count(-1), INVALID);
        due("count", x.count(FAR_BELOW), INVALID);
        for (int i = 0; i < 24; i++) {
            x.make(0);
        }
        x.begin();
        x.step(99);
        x = new ReachedHeap();
        for (int i = 0; i < 24; i++) {
            x.make(3);
        }
        x.begin();
        x.step(27);
        due("count(7) behind the last", x.count(7), 24);
    }

    private static void far() {
        ReachedHeap x = chain();
        due("far(0)", x.far(0), 0);
        due("far(2)", x.far(2), 2);
        x.field(0, 2, 2);
        due("far(2)", x.far(2), 1);
        x.root(3, 2);
        due("far(2)", x.far(2), 0);
        due("far(1)", x.far(1), 1);
        due("far(3)", x.far(3), INVALID);
        due("far(-1)", x.far(-1), INVALID);
        due("far(24)", x.far(24), INVALID);
        due("far", x.far(FAR_BELOW), INVALID);
        x.field(0, 0, -1);
        due("far(1)", x.far(1), MISSING);
        x = new ReachedHeap();
        x.make(0);
        for (int i = 1; i < 24; i++) {
            x.make(1);
            x.field(i - 1, 1, i);
        }
        x.root(1, -1);
        due("far(23)", x.far(23), 23);
        x.want(23);
        x.field(22, 1, -1);
        x.all();
        due("far(23) in the list", x.far(23), MISSING);
    }

    private static void hangs() {
        ReachedHeap x = chain();
        due("hangs(0)", x.hangs(0), 7);
        due("hangs(1)", x.hangs(1), 6);
        due("hangs(2)", x.hangs(2), 4);
        x.field(0, 1, 2);
        due("hangs(1)", x.hangs(1), 2);
        x.field(2, 0, 0);
        due("hangs(0) round about", x.hangs(0), 7);
        x.root(2, 1);
        due("hangs(0)", x.hangs(0), 1);
        due("hangs(1)", x.hangs(1), 2);
        due("hangs(3)", x.hangs(3), INVALID);
        due("hangs(-1)", x.hangs(-1), INVALID);
        due("hangs", x.hangs(FAR_OFF), INVALID);
        x = chain();
        x.want(1);
        x.field(0, 0, -1);
        due("hangs(1)", x.hangs(1), IMPOSSIBLE);
        x.all();
        due("hangs(1) by the list", x.hangs(1), IMPOSSIBLE);
        x.field(0, 0, 1);
        due("hangs(0): the list does not count", x.hangs(0), 7);
    }

    private static void wouldGo() {
        ReachedHeap x = chain();
        due("wouldGo()", x.wouldGo(), 0);
        x.field(0, 0, -1);
        due("wouldGo()", x.wouldGo(), 6);
        due("objects(0)", x.objects(0), 7);
        due("count(2)", x.count(2), 0);
        due("count(10)", x.count(10), 2);
        x.begin();
        due("wouldGo()", x.wouldGo(), 6);
        x.step(4);
        due("part", x.count(1), 3);
        x.step(1);
        due("of those that are left", x.wouldGo(), 4);
        x.step(99);
        due("wouldGo()", x.wouldGo(), 0);
        x = chain();
        x.want(1);
        x.root(0, -1);
        due("what wants it stays, and what hangs on it", x.wouldGo(), 1);
        due("objects(6)", x.objects(6), 2);
        x = chain();
        x.begin();
        x.step(2);
        x.root(0, -1);
        due("the search kept them", x.wouldGo(), 0);
    }

    private static void late() {
        ReachedHeap x = chain();
        x.root(0, -1);
        due("late() without a search", x.late(), 0);
        x = chain();
        x.begin();
        due("late()", x.late(), 0);
        x.root(0, -1);
        due("grey 0", x.late(), 1);
        x.step(1);
        due("black 0, grey 1", x.late(), 2);
        x.step(2);
        due("late()", x.late(), 3);
        x.step(2);
        due("part", x.count(1), 3);
        x.step(1);
        due("white, but looked at", x.late(), 3);
        x.step(3);
        due("over", x.late(), 0);
        x.begin();
        due("white ones are not late", x.late(), 0);
        x = heap("n0;n1;");
        x.want(1);
        x.root(1, -1);
        x.begin();
        x.step(3);
        due("in the list", x.late(), 0);
        x.finish(-1);
        due("no more", x.late(), 1);
        x = heap("n0;r0,-;n0;r0,-;b;s2;");
        due("part", x.count(1), 3);
        due("white ahead", x.late(), 0);
    }

    private static void keep() {
        ReachedHeap x = new ReachedHeap();
        due("keep()", x.keep(), 0);
        x.make(0);
        x.make(0);
        due("keep()", x.keep(), 2);
        due("no change", x.count(10), 2);
        x.make(0);
        due("restore()", x.restore(), 2);
        due("in place of the first", x.objects(0), 3);
        x.undo();
        due("objects(0)", x.objects(0), 7);
        due("undo leaves it", x.count(12), 1);
        due("keep()", x.keep(), 3);
    }

    private static void restore() {
        ReachedHeap x = chain();
        due("restore()", x.restore(), IMPOSSIBLE);
        due("count(10)", x.count(10), 1);
        x.set(2);
        x.weak(2, 1);
        x.want(2);
        x.begin();
        x.step(1);
        type(x, "b;");
        x.keep();
        x.all();
        x.root(0, -1);
        x.make(1);
        x.clearText();
        type(x, "n0;");
        due("restore()", x.restore(), 3);
        due("count(1)", x.count(1), 1);
        due("grey(0)", x.grey(0), 1);
        due("objects(5)", x.objects(5), 1);
        due("objects(6)", x.objects(6), 4);
        due("refers(1, 2)", x.refers(1, 2), 1);
        due("refers(0, 0)", x.refers(0, 0), 0);
        due("count(3)", x.count(3), 3);
        due("count(8)", x.count(8), 1);
        due("the text is no part of it", x.count(11), 3);
        due("it is a change", x.count(10), 4);
        x.undo();
        due("undone", x.objects(0), 15);
        x.make(2);
        due("restore() again", x.restore(), 3);
        x.all();
        x.set(1);
        x.restore();
        due("count(9)", x.count(9), 2);
        due("count(2)", x.count(2), 1);
    }

    private static void undo() {
        ReachedHeap x = new ReachedHeap();
        due("undo()", x.undo(), IMPOSSIBLE);
        for (int i = 0; i < 6; i++) {
            x.make(0);
        }
        due("count(10)", x.count(10), 4);
        due("an error is no change", x.make(4), INVALID);
        due("nor drops it a state", x.root(0, 9), INVALID);
        type(x, "n0;");
        due("undo()", x.undo(), 3);
        due("objects(0)", x.objects(0), 31);
        due("the text stays", x.count(11), 3);
        due("undo()", x.undo(), 2);
        due("undo()", x.undo(), 1);
        due("undo()", x.undo(), 0);
        due("objects(0)", x.objects(0), 3);
        due("undo()", x.undo(), IMPOSSIBLE);
        due("count(3)", x.count(3), 2);

        // each of the changes is one
        x = heap("n0;n1;");
        x.weak(0, 1);
        due("weak", x.undo() * 10 + x.refers(1, 0), 10 + MISSING);
        x.field(0, 0, 1);
        due("field", x.undo() * 10 + x.objectOf(0, 1), 9);
        x.root(0, 1);
        due("root", x.undo() * 10 + x.refers(0, 0), 10);
        x.want(0);
        due("want", x.undo() * 10 + x.objects(6), 10);
        x.set(2);
        due("set", x.undo() * 10 + x.count(9), 11);
        x.begin();
        due("begin", x.undo() * 10 + x.count(2), 10);
        x.all();
        due("all", x.undo() * 10 + x.count(2), 10);
        x.weak(0, 1);
        x.ask(0, 3);
        due("ask", x.undo() * 1000 + x.refers(0, 3), 2000 + MISSING);
        x.begin();
        x.step(2);
        due("step", x.undo() * 10 + x.count(8), 30);
        x.all();
        x.want(1);
        x.root(1, -1);
        x.all();
        x.finish(1);
        due("finish", x.undo() * 10 + x.count(6), 31);
        x.keep();
        x.make(3);
        due("keep and make", x.undo() * 10 + x.count(0), 32);
    }

    private static void type() {
        ReachedHeap x = new ReachedHeap();
        due("type(31)", x.type(31), INVALID);
        due("type(127)", x.type(127), INVALID);
        due("type(-1)", x.type(-1), INVALID);
        due("type", x.type(FAR_OFF), INVALID);
        due("type", x.type(0x1006E), INVALID);
        due("type(32)", x.type(32), 1);
        due("type(126)", x.type(126), 2);
        for (int length = 3; length <= 60; length++) {
            due("type(65)", x.type(65), length);
        }
        due("type(65)", x.type(65), LIMIT);
        due("type(31)", x.type(31), INVALID);
        due("count(11)", x.count(11), 60);
        due("no change", x.count(10), 0);
    }

    private static void clearText() {
        ReachedHeap x = new ReachedHeap();
        due("clearText()", x.clearText(), 0);
        type(x, "n0;x");
        due("clearText()", x.clearText(), 4);
        due("count(11)", x.count(11), 0);
        due("fault(0)", x.fault(0), MISSING);
        due("type(66)", x.type(66), 1);
        due("no change", x.count(10), 0);
    }

    private static void dueFault(String text, int position, int reason, int cause) {
        ReachedHeap x = chain();
        type(x, text);
        due("fault(0) of " + text, x.fault(0), position);
        due("fault(1) of " + text, x.fault(1), reason);
        due("fault(2) of " + text, x.fault(2), cause);
        due("play() of " + text, x.play() == IMPOSSIBLE ? 1 : 0, position == MISSING ? 0 : 1);
    }

    private static void fault() {
        ReachedHeap x = new ReachedHeap();
        due("fault(3)", x.fault(3), INVALID);
        due("fault(-1)", x.fault(-1), INVALID);
        due("fault(0)", x.fault(0), MISSING);
        dueFault("", MISSING, MISSING, MISSING);
        for (String good : new String[] {"n0;", "n003;", "f0,0,1;", "f000,002,-;", "r1,2;", "r03,-;", "b;", "b;s1;", "b;s099;"}) {
            dueFault(good, MISSING, MISSING, MISSING);
        }
        for (String bad : new String[] {"n", "n;", "n0", "n0000;", "n-;", "n0,;", "n 0;", "N0;", "f0,0;", "f0,0,;", "f0,-,0;",
            "f-,0,0;", "f0,0,0000;", "f0,0,1,;", "f0,0,--;", "r0;", "r0,;", "r-,0;", "r0,-", "r0,-1;", "b0;", "b", "b,;", "s;", "s",
            "s-;", "s1234;", "s1,;", ";", "-", " ", "~"}) {
            dueFault(bad, 0, 1, MISSING);
            dueFault("b;" + bad, 2, 1, MISSING);
        }
        dueFault("n4;", 0, 2, INVALID);
        dueFault("n999;", 0, 2, INVALID);
        dueFault("n0;n0;f0,0,1;x", 6, 2, IMPOSSIBLE);
        dueFault("f0,3,1;", 0, 2, INVALID);
        dueFault("f0,0,24;", 0, 2, INVALID);
        dueFault("r3,3;", 0, 2, INVALID);
        dueFault("n3;r3,3;", MISSING, MISSING, MISSING);
        dueFault("r0,-;r0,0;", 5, 2, IMPOSSIBLE);
        dueFault("b;b;", 2, 2, IMPOSSIBLE);
        dueFault("s1;", 0, 2, IMPOSSIBLE);
        dueFault("s0;", 0, 2, INVALID);
        dueFault("b;s100;", 2, 2, INVALID);
        dueFault("b;s99;s1;", 6, 2, IMPOSSIBLE);
        dueFault("n4;n", 0, 2, INVALID);
        for (int i = 0; i < 23; i++) {
            x.make(0);
        }
        type(x, "n0;n0;");
        due("fault(2)", x.fault(2), LIMIT);
        due("fault(0)", x.fault(0), 3);
        due("it only looks", x.count(0), 23);
        x.all();
        due("fault(2)", x.fault(2), MISSING);
    }

    private static void play() {
        ReachedHeap x = new ReachedHeap();
        due("play() of nothing", x.play(), 0);
        due("a change", x.count(10), 1);
        type(x, "n0;n1;f0,2,1;r1,-;b;s5;");
        due("play()", x.play(), 6);
        due("one change", x.count(10), 2);
        due("the text stays", x.count(11), 23);
        due("objects(0)", x.objects(0), 3);
        due("objectOf(0, 3)", x.objectOf(0, 3), 1);
        due("count(8)", x.count(8), 5);
        due("play()", x.play(), IMPOSSIBLE);
        due("fault(0)", x.fault(0), 6);
        due("nothing was done", x.count(0) * 100 + x.count(10), 202);
        due("undo()", x.undo(), 1);
        due("objects(0)", x.objects(0), 0);
        x.clearText();
        for (int i = 0; i < 20; i++) {
            type(x, "n0;");
        }
        due("play() of 60", x.play(), 20);
        due("play()", x.play(), IMPOSSIBLE);
        due("objects(0)", x.objects(0), 0xFFFFF);
    }
}
