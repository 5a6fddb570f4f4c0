import java.util.Arrays;

/**
 * A heap in which what is reached from roots is searched for in steps, while the program goes on.
 * The document ../shared/DOC.md says what each call does.
 *
 * Sets of objects are bits of an int everywhere: there are only 24 numbers, and the answers are
 * told in this way too. All rows are made by the constructor, so that no call makes an object.
 */
public final class ReachedHeap {
    public static final int INVALID_ARGUMENT = -11;
    public static final int NOT_POSSIBLE = -12;
    public static final int LIMIT_REACHED = -13;
    public static final int NOT_FOUND = -14;

    private static final int NONE = -1;
    private static final int UNREAD = -2;
    private static final int OBJECTS = 24;
    private static final int FIELDS = 3;
    private static final int ROOTS = 4;
    private static final int HOLDERS = 4;
    private static final int MOST_STEPS_ASKED = 99;
    private static final int MOST_SIGNS = 60;
    private static final int MOST_DIGITS = 3;
    private static final int MOST_STATES = 4;

    private static final int WHITE = 0;
    private static final int GREY = 1;
    private static final int BLACK = 2;

    private static final int NO_SEARCH = 0;
    private static final int MARKING = 1;
    private static final int FINISHING = 2;
    private static final int SWEEPING = 3;

    private static final int CARE_FOR_NEW = 1;
    private static final int CARE_FOR_OLD = 2;

    private static final int NO_FAULT = 0;
    private static final int BAD_FORM = 1;
    private static final int BAD_CALL = 2;

    // A search alone with itself takes each object at most once in each part: this is far above.
    private static final int MORE_THAN_ALL_STEPS = 10000;

    private final State state;
    private final State ahead;
    private final State kept;
    private final History history;
    private final Commands commands;
    private boolean isKept;

    public ReachedHeap() {
        state = new State();
        ahead = new State();
        kept = new State();
        history = new History();
        commands = new Commands();
        isKept = false;
    }

    // ---- what the program does

    public int make(int root) {
        history.note(state);
        return history.settle(state.create(root));
    }

    public int field(int object, int field, int to) {
        history.note(state);
        return history.settle(state.writeField(object, field, to));
    }

    public int root(int root, int to) {
        history.note(state);
        return history.settle(state.writeRoot(root, to));
    }

    public int weak(int holder, int to) {
        history.note(state);
        return history.settle(state.writeHolder(holder, to));
    }

    public int ask(int holder, int root) {
        history.note(state);
        return history.settle(state.askHolder(holder, root));
    }

    public int want(int object) {
        history.note(state);
        return history.settle(state.wishFinish(object));
    }

    public int finish(int root) {
        history.note(state);
        return history.settle(state.finishFirst(root));
    }

    // ---- searches

    public int begin() {
        history.note(state);
        return history.settle(state.beginSearch());
    }

    public int step(int many) {
        history.note(state);
        return history.settle(state.doSteps(many));
    }

    public int all() {
        history.note(state);
        return history.settle(state.doAllSteps());
    }

    public int set(int value) {
        history.note(state);
        return history.settle(state.setCare(value));
    }

    // ---- what there is

    public int objectOf(int object, int what) {
        return state.tellObject(object, what);
    }

    public int refers(int kind, int number) {
        return state.graph.tellReferred(kind, number);
    }

    public int grey(int index) {
        if (index < 0) {
            return INVALID_ARGUMENT;
        }
        int number = state.search.row.at(index);
        return number == NONE ? NOT_FOUND : number;
    }

    public int objects(int what) {
        return state.tellSet(what);
    }

    public int count(int what) {
        switch (what) {
            case 10: return history.size;
            case 11: return commands.length;
            case 12: return isKept ? 1 : 0;
            default: return state.tellNumber(what);
        }
    }

    // ---- what is found

    public int far(int object) {
        if (!state.graph.has(object)) {
            return INVALID_ARGUMENT;
        }
        int distance = state.graph.distanceTo(object);
        return distance == NONE ? NOT_FOUND : distance;
    }

    public int hangs(int object) {
        Graph graph = state.graph;
        if (!graph.has(object)) {
            return INVALID_ARGUMENT;
        }
        int reached = graph.reachedByRoots();
        if ((reached & bit(object)) == 0) {
            return NOT_POSSIBLE;
        }
        return reached & ~graph.reachedFrom(graph.setOfRoots(), bit(object));
    }

    public int wouldGo() {
        ahead.copyFrom(state);
        ahead.doAllSteps();
        return state.graph.present & ~ahead.graph.present;
    }

    public int late() {
        return Integer.bitCount(state.lateOnes());
    }

    // ---- snapshot, undo

    public int keep() {
        kept.copyFrom(state);
        isKept = true;
        return state.graph.size();
    }

    public int restore() {
        if (!isKept) {
            return NOT_POSSIBLE;
        }
        history.note(state);
        state.copyFrom(kept);
        return history.settle(state.graph.size());
    }

    public int undo() {
        return history.takeBack(state);
    }

    // ---- texts

    public int type(int character) {
        return commands.append(character);
    }

    public int clearText() {
        return commands.empty();
    }

    public int fault(int what) {
        if (what < 0 || what > 2) {
            return INVALID_ARGUMENT;
        }
        ahead.copyFrom(state);
        commands.tryOn(ahead);
        return commands.tellFault(what);
    }

    public int play() {
        ahead.copyFrom(state);
        commands.tryOn(ahead);
        if (commands.reason != NO_FAULT) {
            return NOT_POSSIBLE;
        }
        history.note(state);
        state.copyFrom(ahead);
        return history.settle(commands.done);
    }

    // ---- what the parts share

    /** The set of one number; none is the empty set, so that callers need not ask for it. */
    private static int bit(int number) {
        return number >= 0 && number < OBJECTS ? 1 << number : 0;
    }

    private static boolean isIn(int number, int end) {
        return number >= 0 && number < end;
    }

    /** A number of a reference that is none is an answer too, so not all below 0 is an error. */
    private static boolean isError(int answer) {
        return answer <= INVALID_ARGUMENT;
    }

    private static int lowestOf(int set, int from) {
        for (int number = Math.max(from, 0); number < OBJECTS; number++) {
            if ((set & bit(number)) != 0) {
                return number;
            }
        }
        return NONE;
    }

    /** Numbers of objects one behind the other, each at most once. */
    private static final class Line {
        final int[] numbers = new int[OBJECTS];
        int length;

        void append(int number) {
            if (length < OBJECTS) {
                numbers[length] = number;
                length++;
            }
        }

        int at(int index) {
            return isIn(index, length) && index < OBJECTS ? numbers[index] : NONE;
        }

        int takeFirst() {
            if (length <= 0 || length > OBJECTS) {
                return NONE;
            }
            int first = numbers[0];
            length--;
            System.arraycopy(numbers, 1, numbers, 0, length);
            return first;
        }

        int placeOf(int number) {
            for (int place = 0; place < length && place < OBJECTS; place++) {
                if (numbers[place] == number) {
                    return place;
                }
            }
            return NONE;
        }

        int asSet() {
            int set = 0;
            for (int place = 0; place < length && place < OBJECTS; place++) {
                set |= bit(numbers[place]);
            }
            return set;
        }

        void copyFrom(Line other) {
            System.arraycopy(other.numbers, 0, numbers, 0, OBJECTS);
            length = other.length;
        }
    }

    /** Which objects there are, what refers to them, and what is reached thereby. */
    private static final class Graph {
        int present;
        int wanting;
        final int[] fields = new int[OBJECTS * FIELDS];
        final int[] roots = new int[ROOTS];
        final int[] holders = new int[HOLDERS];
        final Line toFinish = new Line();

        Graph() {
            Arrays.fill(fields, NONE);
            Arrays.fill(roots, NONE);
            Arrays.fill(holders, NONE);
        }

        boolean has(int number) {
            return (present & bit(number)) != 0;
        }

        boolean hasOrNone(int number) {
            return number == NONE || has(number);
        }

        int size() {
            return Integer.bitCount(present);
        }

        int fieldOf(int object, int field) {
            return isIn(object, OBJECTS) && isIn(field, FIELDS) ? fields[object * FIELDS + field] : NONE;
        }

        void setField(int object, int field, int to) {
            if (object >= 0 && object < OBJECTS && field >= 0 && field < FIELDS) {
                fields[object * FIELDS + field] = to;
            }
        }

        int rootAt(int root) {
            return isIn(root, ROOTS) ? roots[root] : NONE;
        }

        int holderAt(int holder) {
            return isIn(holder, HOLDERS) ? holders[holder] : NONE;
        }

        int tellReferred(int kind, int number) {
            if (kind < 0 || kind > 1 || !isIn(number, kind == 0 ? ROOTS : HOLDERS)) {
                return INVALID_ARGUMENT;
            }
            int to = kind == 0 ? rootAt(number) : holderAt(number);
            return to == NONE ? NOT_FOUND : to;
        }

        /** Takes the lowest free number; what referred to its last owner was emptied in letGo(). */
        int bring() {
            int number = lowestOf(~present, 0);
            present |= bit(number);
            return number;
        }

        void letGo(int number) {
            present &= ~bit(number);
            wanting &= ~bit(number);
            for (int field = 0; field < FIELDS; field++) {
                setField(number, field, NONE);
            }
            forget(fields, number);
            forget(holders, number);
        }

        private static void forget(int[] references, int number) {
            for (int place = 0; place < references.length; place++) {
                if (references[place] == number) {
                    references[place] = NONE;
                }
            }
        }

        void emptyHoldersOf(int set) {
            for (int holder = 0; holder < HOLDERS; holder++) {
                if ((bit(holders[holder]) & set) != 0) {
                    holders[holder] = NONE;
                }
            }
        }

        int setOfRoots() {
            int set = 0;
            for (int root = 0; root < ROOTS; root++) {
                set |= bit(roots[root]);
            }
            return set;
        }

        /** What the fields of a set's objects refer to. */
        int behind(int set) {
            int found = 0;
            for (int place = 0; place < fields.length; place++) {
                if ((set & bit(place / FIELDS)) != 0) {
                    found |= bit(fields[place]);
                }
            }
            return found;
        }

        int reachedFrom(int starts, int without) {
            int reached = 0;
            int wider = starts & ~without;
            for (int round = 0; round < OBJECTS && wider != reached; round++) {
                reached = wider;
                wider |= behind(reached) & ~without;
            }
            return wider;
        }

        int reachedByRoots() {
            return reachedFrom(setOfRoots(), 0);
        }

        /** By roots or the list: the program can name nothing else. */
        int reachedByAll() {
            return reachedFrom(setOfRoots() | toFinish.asSet(), 0);
        }

        int distanceTo(int object) {
            int reached = setOfRoots();
            for (int distance = 0; distance < OBJECTS; distance++) {
                if ((reached & bit(object)) != 0) {
                    return distance;
                }
                reached |= behind(reached);
            }
            return NONE;
        }

        void copyFrom(Graph other) {
            present = other.present;
            wanting = other.wanting;
            System.arraycopy(other.fields, 0, fields, 0, OBJECTS * FIELDS);
            System.arraycopy(other.roots, 0, roots, 0, ROOTS);
            System.arraycopy(other.holders, 0, holders, 0, HOLDERS);
            toFinish.copyFrom(other.toFinish);
        }
    }

    /** The colours and the parts of a search; an object that is neither grey nor black is white. */
    private static final class Search {
        int part = NO_SEARCH;
        int greyOnes;
        int blackOnes;
        final Line row = new Line();
        int sweepFrom;
        int began;
        int steps;
        int goneNow;
        int goneEver;

        boolean isThere() {
            return part != NO_SEARCH;
        }

        boolean needsCare() {
            return part == MARKING || part == FINISHING;
        }

        boolean isBlack(int number) {
            return (blackOnes & bit(number)) != 0;
        }

        int colourOf(int number) {
            if (isBlack(number)) {
                return BLACK;
            }
            return (greyOnes & bit(number)) != 0 ? GREY : WHITE;
        }

        int whiteOnes(Graph graph) {
            return graph.present & ~(greyOnes | blackOnes);
        }

        void shade(int number) {
            int one = bit(number);
            if (one == 0 || ((greyOnes | blackOnes) & one) != 0) {
                return;
            }
            greyOnes |= one;
            row.append(number);
        }

        void colourNewOne(int number) {
            if (needsCare() || (part == SWEEPING && number >= sweepFrom)) {
                blackOnes |= bit(number);
            }
        }

        void open(Graph graph) {
            part = MARKING;
            began++;
            steps = 0;
            goneNow = 0;
            for (int root = 0; root < ROOTS; root++) {
                shade(graph.rootAt(root));
            }
            for (int place = 0; place < graph.toFinish.length; place++) {
                shade(graph.toFinish.at(place));
            }
        }

        void advance(Graph graph) {
            steps++;
            if (part == SWEEPING) {
                sweep(graph);
            } else if (row.length > 0) {
                markFirst(graph);
            } else if (part == MARKING) {
                graph.emptyHoldersOf(whiteOnes(graph));
                part = FINISHING;
            } else {
                findToFinish(graph);
            }
        }

        private void markFirst(Graph graph) {
            int number = row.takeFirst();
            for (int field = 0; field < FIELDS; field++) {
                shade(graph.fieldOf(number, field));
            }
            greyOnes &= ~bit(number);
            blackOnes |= bit(number);
        }

        private void findToFinish(Graph graph) {
            int number = lowestOf(whiteOnes(graph) & graph.wanting, 0);
            if (number == NONE) {
                graph.emptyHoldersOf(whiteOnes(graph));
                part = SWEEPING;
                sweepFrom = 0;
            } else {
                graph.wanting &= ~bit(number);
                graph.toFinish.append(number);
                shade(number);
            }
        }

        private void sweep(Graph graph) {
            int number = lowestOf(graph.present, sweepFrom);
            if (number == NONE) {
                part = NO_SEARCH;
                return;
            }
            int one = bit(number);
            if ((whiteOnes(graph) & one) != 0) {
                graph.letGo(number);
                goneNow |= one;
                goneEver++;
            } else {
                blackOnes &= ~one;
            }
            sweepFrom = number + 1;
        }

        void copyFrom(Search other) {
            part = other.part;
            greyOnes = other.greyOnes;
            blackOnes = other.blackOnes;
            row.copyFrom(other.row);
            sweepFrom = other.sweepFrom;
            began = other.began;
            steps = other.steps;
            goneNow = other.goneNow;
            goneEver = other.goneEver;
        }
    }

    /** Everything but the text, the snapshot and the history: what undo() and restore() bring back. */
    private static final class State {
        final Graph graph = new Graph();
        final Search search = new Search();
        final int[] beganBefore = new int[OBJECTS];
        int care = CARE_FOR_NEW;
        int came;
        int finished;

        int create(int root) {
            if (!isIn(root, ROOTS)) {
                return INVALID_ARGUMENT;
            }
            int number = graph.bring();
            if (!isIn(number, OBJECTS)) {
                return LIMIT_REACHED;
            }
            came++;
            beganBefore[number] = search.began;
            search.colourNewOne(number);
            referRoot(root, number);
            return number;
        }

        int writeField(int object, int field, int to) {
            if (!graph.has(object) || !isIn(field, FIELDS) || !graph.hasOrNone(to)) {
                return INVALID_ARGUMENT;
            }
            if (((bit(object) | bit(to)) & ~graph.reachedByAll()) != 0) {
                return NOT_POSSIBLE;
            }
            int before = graph.fieldOf(object, field);
            graph.setField(object, field, to);
            takeCare(search.isBlack(object), before, to);
            return before;
        }

        int writeRoot(int root, int to) {
            if (!isIn(root, ROOTS) || !graph.hasOrNone(to)) {
                return INVALID_ARGUMENT;
            }
            if ((bit(to) & ~graph.reachedByAll()) != 0) {
                return NOT_POSSIBLE;
            }
            int before = graph.rootAt(root);
            referRoot(root, to);
            return before;
        }

        int writeHolder(int holder, int to) {
            if (!isIn(holder, HOLDERS) || !graph.hasOrNone(to)) {
                return INVALID_ARGUMENT;
            }
            if ((bit(to) & ~graph.reachedByAll()) != 0) {
                return NOT_POSSIBLE;
            }
            int before = graph.holderAt(holder);
            graph.holders[holder] = to;
            return before;
        }

        int askHolder(int holder, int root) {
            if (!isIn(holder, HOLDERS) || !isIn(root, ROOTS)) {
                return INVALID_ARGUMENT;
            }
            int object = graph.holderAt(holder);
            if (object == NONE) {
                return NOT_FOUND;
            }
            referRoot(root, object);
            shadeIfCareIsNeeded(object);
            return object;
        }

        int wishFinish(int object) {
            if (!graph.has(object)) {
                return INVALID_ARGUMENT;
            }
            if ((bit(object) & graph.reachedByAll() & ~graph.wanting) == 0) {
                return NOT_POSSIBLE;
            }
            graph.wanting |= bit(object);
            return Integer.bitCount(graph.wanting);
        }

        int finishFirst(int root) {
            if (root != NONE && !isIn(root, ROOTS)) {
                return INVALID_ARGUMENT;
            }
            int object = graph.toFinish.takeFirst();
            if (object == NONE) {
                return NOT_POSSIBLE;
            }
            finished++;
            if (root != NONE) {
                referRoot(root, object);
            }
            shadeIfCareIsNeeded(object);
            return object;
        }

        private void referRoot(int root, int to) {
            if (!isIn(root, ROOTS)) {
                return;
            }
            int before = graph.roots[root];
            graph.roots[root] = to;
            takeCare(true, before, to);
        }

        /** Roots count as black here: the search looks at them once, when it begins. */
        private void takeCare(boolean isWriterBlack, int before, int to) {
            if (!search.needsCare()) {
                return;
            }
            if (care == CARE_FOR_NEW) {
                if (isWriterBlack) {
                    search.shade(to);
                }
            } else if (before != to) {
                search.shade(before);
            }
        }

        /** What ask() and finish() bring back was perhaps reached by nothing: no care sees it. */
        private void shadeIfCareIsNeeded(int object) {
            if (search.needsCare()) {
                search.shade(object);
            }
        }

        int beginSearch() {
            if (search.isThere()) {
                return NOT_POSSIBLE;
            }
            search.open(graph);
            return search.row.length;
        }

        int doSteps(int many) {
            if (many < 1 || many > MOST_STEPS_ASKED) {
                return INVALID_ARGUMENT;
            }
            if (!search.isThere()) {
                return NOT_POSSIBLE;
            }
            int goneBefore = search.goneEver;
            for (int done = 0; done < many && search.isThere(); done++) {
                search.advance(graph);
            }
            return search.goneEver - goneBefore;
        }

        int doAllSteps() {
            if (!search.isThere()) {
                search.open(graph);
            }
            int done = 0;
            while (done < MORE_THAN_ALL_STEPS && search.isThere()) {
                search.advance(graph);
                done++;
            }
            return done;
        }

        int setCare(int value) {
            if (value != CARE_FOR_NEW && value != CARE_FOR_OLD) {
                return INVALID_ARGUMENT;
            }
            if (search.isThere()) {
                return NOT_POSSIBLE;
            }
            int before = care;
            care = value;
            return before;
        }

        int tellObject(int object, int what) {
            if (!isIn(object, OBJECTS) || !graph.has(object)) {
                return INVALID_ARGUMENT;
            }
            switch (what) {
                case 0: return search.colourOf(object);
                case 1:
                case 2:
                case 3: return graph.fieldOf(object, what - 1);
                case 4: return (graph.wanting & bit(object)) != 0 ? 1 : 0;
                case 5: return (graph.reachedByRoots() & bit(object)) != 0 ? 1 : 0;
                case 6: return graph.toFinish.placeOf(object);
                case 7: return search.began - beganBefore[object];
                default: return INVALID_ARGUMENT;
            }
        }

        int tellSet(int what) {
            switch (what) {
                case 0: return graph.present;
                case 1: return graph.reachedByRoots();
                case 2: return graph.reachedByAll();
                case 3: return search.whiteOnes(graph);
                case 4: return search.greyOnes;
                case 5: return search.blackOnes;
                case 6: return graph.wanting;
                case 7: return search.goneNow;
                default: return INVALID_ARGUMENT;
            }
        }

        int tellNumber(int what) {
            switch (what) {
                case 0: return graph.size();
                case 1: return search.part;
                case 2: return search.began;
                case 3: return came;
                case 4: return search.goneEver;
                case 5: return finished;
                case 6: return graph.toFinish.length;
                case 7: return search.part == SWEEPING ? search.sweepFrom : NOT_FOUND;
                case 8: return search.began > 0 ? search.steps : NOT_FOUND;
                case 9: return care;
                default: return INVALID_ARGUMENT;
            }
        }

        int lateOnes() {
            if (!search.isThere()) {
                return 0;
            }
            int safe = search.greyOnes | search.blackOnes;
            if (search.part == SWEEPING) {
                safe |= (1 << search.sweepFrom) - 1;
            }
            return graph.present & safe & ~graph.reachedByAll();
        }

        void copyFrom(State other) {
            graph.copyFrom(other.graph);
            search.copyFrom(other.search);
            System.arraycopy(other.beganBefore, 0, beganBefore, 0, OBJECTS);
            care = other.care;
            came = other.came;
            finished = other.finished;
        }
    }

    /** The states before the latest changes, in a ring with one place more than it may hold. */
    private static final class History {
        final State[] states = new State[MOST_STATES + 1];
        int first;
        int size;

        History() {
            for (int place = 0; place <= MOST_STATES; place++) {
                states[place] = new State();
            }
        }

        private State stateAt(int index) {
            return states[Math.floorMod(first + index, MOST_STATES + 1)];
        }

        /** Goes into the spare place: a call that then returns an error must not drop the oldest. */
        void note(State state) {
            stateAt(size).copyFrom(state);
        }

        int settle(int answer) {
            if (isError(answer)) {
                return answer;
            }
            if (size < MOST_STATES) {
                size++;
            } else {
                first = Math.floorMod(first + 1, MOST_STATES + 1);
            }
            return answer;
        }

        int takeBack(State state) {
            if (size <= 0) {
                return NOT_POSSIBLE;
            }
            size--;
            state.copyFrom(stateAt(size));
            return size;
        }
    }

    /** The text, how its commands are read, and what is wrong with them. */
    private static final class Commands {
        final int[] signs = new int[MOST_SIGNS];
        int length;
        int next;
        int kind;
        int first;
        int second;
        int third;
        int done;
        int position;
        int reason;
        int cause;

        int append(int character) {
            if (character < 32 || character > 126) {
                return INVALID_ARGUMENT;
            }
            if (length >= MOST_SIGNS) {
                return LIMIT_REACHED;
            }
            signs[length] = character;
            length++;
            return length;
        }

        int empty() {
            int before = length;
            length = 0;
            return before;
        }

        /** Does the commands on a state that is at hand for it, up to the first that is not possible. */
        void tryOn(State trial) {
            next = 0;
            done = 0;
            reason = NO_FAULT;
            for (int command = 0; command < MOST_SIGNS && next < length; command++) {
                position = next;
                if (!readCommand()) {
                    reason = BAD_FORM;
                    return;
                }
                switch (kind) {
                    case 'n': cause = trial.create(first); break;
                    case 'f': cause = trial.writeField(first, second, third); break;
                    case 'r': cause = trial.writeRoot(first, second); break;
                    case 'b': cause = trial.beginSearch(); break;
                    default: cause = trial.doSteps(first); break;
                }
                if (isError(cause)) {
                    reason = BAD_CALL;
                    return;
                }
                done++;
            }
        }

        int tellFault(int what) {
            if (reason == NO_FAULT || (what == 2 && reason == BAD_FORM)) {
                return NOT_FOUND;
            }
            switch (what) {
                case 0: return position;
                case 1: return reason;
                default: return cause;
            }
        }

        private boolean readCommand() {
            kind = signAt(next);
            next++;
            switch (kind) {
                case 'b':
                    return read(';');
                case 'n':
                case 's':
                    first = readNumber();
                    return first != UNREAD && read(';');
                case 'r':
                    first = readNumber();
                    second = read(',') ? readTarget() : UNREAD;
                    return first != UNREAD && second != UNREAD && read(';');
                case 'f':
                    first = readNumber();
                    second = read(',') ? readNumber() : UNREAD;
                    third = read(',') ? readTarget() : UNREAD;
                    return first != UNREAD && second != UNREAD && third != UNREAD && read(';');
                default:
                    return false;
            }
        }

        private int readTarget() {
            return read('-') ? NONE : readNumber();
        }

        private int readNumber() {
            int value = 0;
            int digits = 0;
            while (digits < MOST_DIGITS && isDigit(signAt(next))) {
                value = value * 10 + signAt(next) - '0';
                next++;
                digits++;
            }
            return digits > 0 ? value : UNREAD;
        }

        private boolean read(int sign) {
            if (signAt(next) != sign) {
                return false;
            }
            next++;
            return true;
        }

        private static boolean isDigit(int sign) {
            return sign >= '0' && sign <= '9';
        }

        /** 0 behind the end: no command has it, so what breaks off is not of the form. */
        private int signAt(int place) {
            return place >= 0 && place < length && place < MOST_SIGNS ? signs[place] : 0;
        }
    }
}
