/**
 * Runs of at most 512 calls, each answer held against PlainHeap: long ones with a question here and there, and
 * shorter ones behind which all is asked. The runs are the same each time: a plain row of numbers stands in for chance.
 */
public final class RandomTest {
    private static final int RUNS = 6000;
    private static final int MOST_CALLS = 512;
    // The longest piece of a text, or a change and the questions behind it.
    private static final int CALLS_AT_ONCE = 10;
    private static final int QUESTIONS = 400;
    private static final String[] PIECES = {
        "n0;", "n1;", "n2;", "n3;", "b;", "s1;", "s05;", "s099;", "r0,-;", "r3,1;", "f0,0,1;", "f1,2,-;", "f2,1,0;",
        "n4;", "s0;", "s100;", "r1,24;", "f0,3,1;", ";", "n;", "n0000;", "r0,--;", "f0,1;", "b", "x;", "b ;", "f-,1,1;"};

    private long seed;
    private ReachedHeap real;
    private PlainHeap plain;
    private int calls;
    private int wrong;

    public static void main(String[] args) {
        int failed = 0;
        for (int run = 0; run < RUNS; run++) {
            RandomTest test = new RandomTest();
            test.seed = 77_777L * run + 1;
            test.play(run);
            failed += test.wrong == 0 ? 0 : 1;
        }
        System.out.println("RandomTest: " + (RUNS - failed) + " passed, " + failed + " failed");
        if (failed != 0) {
            System.exit(1);
        }
    }

    private int below(int end) {
        seed = seed * 6364136223846793005L + 1442695040888963407L;
        return (int) ((seed >>> 33) % end);
    }

    /** Mostly a number of the range, sometimes one just outside, seldom one far outside. */
    private int near(int from, int to) {
        int chance = below(60);
        if (chance == 0) {
            return from - 1;
        }
        if (chance == 1) {
            return to + 1;
        }
        if (chance == 2) {
            int[] extremes = {Integer.MIN_VALUE, Integer.MAX_VALUE, -12, 31, 32, 33, 64, 1000};
            return extremes[below(extremes.length)];
        }
        return from + below(to - from + 1);
    }

    /** Mostly an object that is there, so that writes are done and not only refused. */
    private int someObject(boolean orNone) {
        int present = plain.objects(below(6) == 0 ? 0 : 2);
        if (below(12) == 0 || present == 0) {
            return near(orNone ? -1 : 0, 23);
        }
        if (orNone && below(4) == 0) {
            return -1;
        }
        for (int tries = 0; tries < 200; tries++) {
            int number = below(24);
            if ((present >> number & 1) == 1) {
                return number;
            }
        }
        return 0;
    }

    private void play(int run) {
        real = new ReachedHeap();
        plain = new PlainHeap();
        int style = run % 6;
        boolean isLong = run % 2 == 0;
        int most = isLong ? MOST_CALLS : 20 + below(MOST_CALLS - QUESTIONS - 20);
        while (calls <= most - CALLS_AT_ONCE && wrong == 0) {
            oneCall(run, calls, style / 2);
            lookAtSome(run, isLong ? below(4) : 0);
        }
        if (!isLong) {
            lookAtAll(run, calls);
        }
        if (calls > MOST_CALLS) {
            wrong++;
            System.out.println("run " + run + ": more calls than an object is made for");
        }
    }

    private void due(int run, int call, String name, int got, int want) {
        calls++;
        if (got != want) {
            wrong++;
            System.out.println("run " + run + " call " + call + ": " + name + " answered " + got + ", due is " + want);
        }
    }

    private void oneCall(int run, int call, int style) {
        int chance = below(100);
        // Runs of style 0 let searches go on slowly, so that most is done in the middle of one.
        int most = style == 0 ? 2 : style == 1 ? 5 : 12;
        if (chance < 14) {
            int a = near(0, 3);
            due(run, call, "make " + a, real.make(a), plain.make(a));
        } else if (chance < 34) {
            int a = someObject(false);
            int b = near(0, 2);
            int c = someObject(true);
            due(run, call, "field " + a + " " + b + " " + c, real.field(a, b, c), plain.field(a, b, c));
        } else if (chance < 46) {
            int a = near(0, 3);
            int b = someObject(true);
            due(run, call, "root " + a + " " + b, real.root(a, b), plain.root(a, b));
        } else if (chance < 52) {
            int a = near(0, 3);
            int b = someObject(true);
            due(run, call, "weak " + a + " " + b, real.weak(a, b), plain.weak(a, b));
        } else if (chance < 56) {
            int a = near(0, 3);
            int b = near(0, 3);
            due(run, call, "ask " + a + " " + b, real.ask(a, b), plain.ask(a, b));
        } else if (chance < 62) {
            int a = someObject(false);
            due(run, call, "want " + a, real.want(a), plain.want(a));
        } else if (chance < 65) {
            int a = near(-1, 3);
            due(run, call, "finish " + a, real.finish(a), plain.finish(a));
        } else if (chance < 70) {
            due(run, call, "begin", real.begin(), plain.begin());
        } else if (chance < 83) {
            int a = below(20) == 0 ? near(1, 99) : 1 + below(most);
            due(run, call, "step " + a, real.step(a), plain.step(a));
        } else if (chance < 84) {
            due(run, call, "all", real.all(), plain.all());
        } else if (chance < 87) {
            int a = near(1, 2);
            due(run, call, "set " + a, real.set(a), plain.set(a));
        } else {
            seldomCall(run, call);
        }
    }

    private void seldomCall(int run, int call) {
        switch (below(10)) {
            case 0: due(run, call, "keep", real.keep(), plain.keep()); break;
            case 1:
                if (below(3) == 0) {
                    due(run, call, "restore", real.restore(), plain.restore());
                }
                break;
            case 2:
            case 3: due(run, call, "undo", real.undo(), plain.undo()); break;
            case 4: due(run, call, "clearText", real.clearText(), plain.clearText()); break;
            case 5:
            case 6: due(run, call, "play", real.play(), plain.play()); break;
            case 7:
                int character = near(32, 126);
                due(run, call, "type " + character, real.type(character), plain.type(character));
                break;
            default:
                String piece = PIECES[below(below(3) == 0 ? PIECES.length : 13)];
                for (int i = 0; i < piece.length(); i++) {
                    due(run, call, "type " + piece, real.type(piece.charAt(i)), plain.type(piece.charAt(i)));
                }
                break;
        }
    }

    private void lookAtSome(int run, int questions) {
        for (int question = 0; question < questions; question++) {
            lookAtOne(run, calls);
        }
    }

    private void lookAtOne(int run, int call) {
        int a = someObject(false);
        int what = near(0, 12);
        switch (below(11)) {
            case 0: due(run, call, "count " + what, real.count(what), plain.count(what)); break;
            case 1: due(run, call, "objects " + what, real.objects(what), plain.objects(what)); break;
            case 2:
            case 3: due(run, call, "objectOf " + a + " " + what, real.objectOf(a, what), plain.objectOf(a, what)); break;
            case 4: due(run, call, "grey " + what, real.grey(what), plain.grey(what)); break;
            case 5: due(run, call, "far " + a, real.far(a), plain.far(a)); break;
            case 6: due(run, call, "hangs " + a, real.hangs(a), plain.hangs(a)); break;
            case 7: due(run, call, "wouldGo", real.wouldGo(), plain.wouldGo()); break;
            case 8: due(run, call, "late", real.late(), plain.late()); break;
            case 9:
                int kind = near(0, 1);
                int number = near(0, 3);
                due(run, call, "refers " + kind + " " + number, real.refers(kind, number), plain.refers(kind, number));
                break;
            default:
                int part = near(0, 2);
                due(run, call, "fault " + part, real.fault(part), plain.fault(part));
                break;
        }
    }

    private void lookAtAll(int run, int call) {
        for (int what = -1; what <= 13; what++) {
            due(run, call, "count " + what, real.count(what), plain.count(what));
        }
        for (int what = -1; what <= 8; what++) {
            due(run, call, "objects " + what, real.objects(what), plain.objects(what));
        }
        for (int object = -1; object <= 24; object++) {
            for (int what = -1; what <= 8; what++) {
                due(run, call, "objectOf " + object + " " + what, real.objectOf(object, what), plain.objectOf(object, what));
            }
            due(run, call, "far " + object, real.far(object), plain.far(object));
            due(run, call, "hangs " + object, real.hangs(object), plain.hangs(object));
            due(run, call, "grey " + object, real.grey(object), plain.grey(object));
        }
        for (int kind = -1; kind <= 2; kind++) {
            for (int number = -1; number <= 4; number++) {
                due(run, call, "refers " + kind + " " + number, real.refers(kind, number), plain.refers(kind, number));
            }
        }
        for (int what = -1; what <= 3; what++) {
            due(run, call, "fault " + what, real.fault(what), plain.fault(what));
        }
        due(run, call, "wouldGo", real.wouldGo(), plain.wouldGo());
        due(run, call, "late", real.late(), plain.late());
    }
}
