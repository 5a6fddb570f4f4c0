/**
 * Heaps that stand at a place worth a look: each is built anew by the same calls, so that two of them can be held
 * against each other, one with a call more than the other. No heap is used for more than 512 calls.
 */
enum Stage {
    NEW, OUTSIDE, MARKING, FINISHING, SWEEPING, OUTSIDE_CARE_2, MARKING_CARE_2, FINISHING_CARE_2, FULL_OF_OBJECTS, FULL_TEXT;

    interface Use {
        int on(ReachedHeap x);
    }

    /** What is asked or done behind a call, to see whether it left a trace. */
    private static final Use[] TRACES = {
        x -> 0,
        x -> x.undo(),
        x -> x.undo() + x.undo(),
        x -> x.undo() + x.undo() + x.undo(),
        x -> x.undo() + x.undo() + x.undo() + x.undo(),
        x -> x.restore(),
        x -> x.play(),
        x -> x.all(),
        x -> x.make(0),
        x -> x.type('s')};

    ReachedHeap build() {
        ReachedHeap x = new ReachedHeap();
        switch (this) {
            case NEW: break;
            case OUTSIDE: layOut(x, 1); break;
            case OUTSIDE_CARE_2: layOut(x, 2); break;
            case MARKING: layOut(x, 1); mark(x); break;
            case MARKING_CARE_2: layOut(x, 2); mark(x); break;
            case FINISHING: layOut(x, 1); find(x); break;
            case FINISHING_CARE_2: layOut(x, 2); find(x); break;
            case SWEEPING: layOut(x, 1); find(x); x.step(2); x.step(2); break;
            case FULL_OF_OBJECTS: fill(x); break;
            default: layOut(x, 1); write(x, " ".repeat(55)); break;
        }
        return x;
    }

    /**
     * Root 0 refers to 0, and 0 and 1 to each other; 2 and 3 are referred to by nothing, 2 wants to be finished;
     * 4 is in the list. Weak holder 0 refers to 1, holder 1 to 3. There are no numbers behind 4.
     */
    private static void layOut(ReachedHeap x, int care) {
        x.set(care);
        x.make(0);
        x.make(1);
        x.make(2);
        x.make(3);
        x.make(3);
        x.want(4);
        x.root(3, -1);
        x.all();
        x.field(0, 0, 1);
        x.field(1, 2, 0);
        x.make(1);
        x.weak(0, 1);
        x.weak(1, 3);
        x.want(2);
        x.root(1, -1);
        x.keep();
        x.root(2, -1);
        write(x, "n3;b;");
    }

    /** 0 is black; 4 and 1 are grey. */
    private static void mark(ReachedHeap x) {
        x.begin();
        x.step(1);
    }

    /** 2 is found: it is behind 4 in the list, and grey; 3 is white; all others are black. */
    private static void find(ReachedHeap x) {
        x.begin();
        x.step(4);
        x.step(1);
    }

    /** All 24 are reached: each refers to the one below, the last by root 1. */
    private static void fill(ReachedHeap x) {
        for (int number = 0; number < 24; number++) {
            x.make(number % 2);
            if (number > 0) {
                x.field(number, 0, number - 1);
            }
        }
        x.keep();
        x.weak(3, 23);
        write(x, "b;n0;");
    }

    static void write(ReachedHeap x, String text) {
        for (int i = 0; i < text.length(); i++) {
            x.type(text.charAt(i));
        }
    }

    /** All that can be asked of a heap, within some 320 calls. */
    static String look(ReachedHeap x) {
        StringBuilder seen = new StringBuilder();
        for (int what = 0; what <= 12; what++) {
            seen.append(x.count(what)).append(' ');
        }
        for (int what = 0; what <= 7; what++) {
            seen.append(x.objects(what)).append(' ');
        }
        for (int object = 0; object < 24; object++) {
            for (int what = 0; what <= 7; what++) {
                seen.append(x.objectOf(object, what)).append(' ');
            }
            seen.append(x.far(object)).append(' ').append(x.hangs(object)).append(' ').append(x.grey(object)).append(' ');
        }
        for (int number = 0; number <= 3; number++) {
            seen.append(x.refers(0, number)).append(' ').append(x.refers(1, number)).append(' ');
        }
        for (int what = 0; what <= 2; what++) {
            seen.append(x.fault(what)).append(' ');
        }
        return seen.append(x.wouldGo()).append(' ').append(x.late()).toString();
    }

    /** Whether a call left no trace: not in what there is, in the history, in the snapshot nor in the text. */
    boolean isLeftAsItWas(Use call) {
        for (Use trace : TRACES) {
            ReachedHeap with = build();
            ReachedHeap without = build();
            call.on(with);
            if (trace.on(with) != trace.on(without) || !look(with).equals(look(without))) {
                return false;
            }
        }
        return true;
    }
}
