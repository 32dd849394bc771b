/** Long runs of calls, ordinary and wrong ones, with the answers of Model and of Greenwave side by side. */
public final class ModelTest {
    private static final int OBJECTS = 250;
    // An object is used for at most 512 calls; some of those counted here make several.
    private static final int CALLS = 480;
    private static final int DEAR_CALLS = 3;
    private static final int[] EXTREMES = {
        Integer.MIN_VALUE, -100001, -91, -2, -1, 0, 1, 4, 5, 16, 41, 61, 90, 601, 1801, 7201, 100001,
        1 << 30, Integer.MAX_VALUE
    };

    private static final Check check = new Check("ModelTest");
    private static long state = 20261119;

    public static void main(String[] args) {
        for (int object = 0; object < OBJECTS; object++) {
            compare(object);
        }
        check.finish();
    }

    /** The next one of numbers that look mixed but are the same each time. */
    private static int below(int bound) {
        state = state * 6364136223846793005L + 1442695040888963407L;
        return (int) ((state >>> 33) % bound);
    }

    private static int between(int least, int most) {
        return least + below(most - least + 1);
    }

    /** Mostly from the range, sometimes just outside it, seldom anything. */
    private static int about(int least, int most) {
        int kind = below(40);
        if (kind == 0) {
            return least - 1;
        }
        if (kind == 1) {
            return most + 1;
        }
        if (kind == 2) {
            return EXTREMES[below(EXTREMES.length)];
        }
        if (kind == 3) {
            return least;
        }
        return kind == 4 ? most : between(least, most);
    }

    private static void compare(int object) {
        Greenwave x = new Greenwave();
        Model model = new Model();
        int dear = 0;
        int calls = 0;
        boolean isTight = below(3) == 0;
        if (isTight || below(8) > 0) {
            int junctions = between(2, 5);
            int cycle = between(30, isTight ? 44 : 90);
            x.begin(junctions, cycle);
            model.begin(junctions, cycle);
            calls++;
        }
        if (below(3) > 0) {
            int flow = between(600, 1800);
            x.setFlow(0, 0, flow);
            model.setFlow(0, 0, flow);
            calls++;
        }
        if (isTight) {
            calls += tighten(x, model);
        }
        int settingUp = between(10, 200);
        int next = between(250, 700);
        while (calls < CALLS) {
            if (calls == next) {
                settingUp = calls + between(10, 60);
            }
            int kind = kindOf(calls, settingUp, next);
            if (kind >= 60 && dear++ >= DEAR_CALLS) {
                kind = 40;
            }
            one(object, calls, kind, x, model);
            calls++;
        }
    }

    /** Long clearances and many phases, so that plans do not fit or clearances break. */
    private static int tighten(Greenwave x, Model model) {
        int calls = 0;
        for (int junction = 0; junction < model.junctions(); junction++) {
            int k = junction;
            int a = below(4);
            int b = (a + between(1, 3)) % 4;
            int c = below(3) == 0 ? 0 : 1 << below(4);
            int d = c == 0 || below(2) == 0 ? 0 : 1 << below(4);
            same("tight phases", () -> x.setPhases(k, 1 << a, 1 << b, c, d),
                    () -> model.setPhases(k, 1 << a, 1 << b, c, d));
            calls++;
            for (int movement = 0; movement < 4; movement++) {
                for (int other = 0; other < movement; other++) {
                    int m = movement;
                    int o = other;
                    int clearance = below(3) * 9 / 2;
                    same("tight conflicts", () -> x.setConflict(k, m, o, clearance),
                            () -> model.setConflict(k, m, o, clearance));
                    calls++;
                }
            }
            same("tight breaches", () -> x.breaches(k), () -> model.breaches(k));
            calls++;
        }
        return calls;
    }

    private static int kindOf(int call, int settingUp, int next) {
        if (call == next) {
            return 0;
        }
        if (call < settingUp) {
            int kind = below(140);
            return kind == 0 ? 60 : kind == 1 ? 61 : kind < 80 ? 1 + kind % 5 : 20 + kind % 8;
        }
        int kind = below(100);
        if (kind == 0) {
            return 60 + below(2);
        }
        if (kind < 4) {
            return 1 + below(5);
        }
        return kind < 12 ? 20 + below(8) : kind < 40 ? 40 : kind < 60 ? 41 : 42 + below(6);
    }

    private static void one(int object, int call, int kind, Greenwave x, Model model) {
        int k = about(0, model.junctions() - 1);
        int m = about(0, 3);
        int o = about(0, 3);
        String what = "object " + object + ", call " + call + ", kind " + kind + " of " + k + ", " + m;
        switch (kind) {
            case 0: {
                int junctions = about(2, 5);
                int cycle = about(30, 90);
                same(what, () -> { x.begin(junctions, cycle); return 0; }, () -> { model.begin(junctions, cycle); return 0; });
                break;
            }
            case 1: {
                int clearance = below(3) == 0 ? -1 : about(-1, 9);
                same(what, () -> x.setConflict(k, m, o, clearance), () -> model.setConflict(k, m, o, clearance));
                break;
            }
            case 2: {
                int a = about(1, below(3) == 0 ? 15 : 3);
                int b = below(8) == 0 ? 0 : below(2) == 0 ? 4 * about(1, 3) : about(0, 15);
                int c = below(2) == 0 ? 0 : 1 << below(4);
                int d = below(2) == 0 ? 0 : about(0, 15);
                same(what, () -> x.setPhases(k, a, b, c, d), () -> model.setPhases(k, a, b, c, d));
                break;
            }
            case 3: {
                int flow = below(3) == 0 ? about(0, 20) : about(0, 1800);
                same(what, () -> x.setFlow(k, m, flow), () -> model.setFlow(k, m, flow));
                break;
            }
            case 4: {
                int seconds = about(1, 60);
                int room = about(1, below(2) == 0 ? 40 : 4);
                same(what, () -> { x.setLink(k, seconds, room); return 0; }, () -> { model.setLink(k, seconds, room); return 0; });
                break;
            }
            case 5: {
                int offset = about(0, below(2) == 0 ? 29 : 89);
                same(what, () -> x.setOffset(k, offset), () -> model.setOffset(k, offset));
                break;
            }
            default:
                ask(what, kind, k, m, x, model);
        }
    }

    private static void ask(String what, int kind, int k, int m, Greenwave x, Model model) {
        switch (kind) {
            case 20:
                same(what, () -> x.hasPlan(k) ? 1 : 0, () -> model.hasPlan(k) ? 1 : 0);
                break;
            case 21:
                same(what, () -> x.green(k, m), () -> model.green(k, m));
                break;
            case 22:
                same(what, () -> x.clearing(k, m), () -> model.clearing(k, m));
                break;
            case 23:
                same(what, () -> x.offset(k), () -> model.offset(k));
                break;
            case 24: {
                int second = about(0, below(2) == 0 ? 100000 : 180);
                same(what, () -> x.isGreen(k, m, second) ? 1 : 0, () -> model.isGreen(k, m, second) ? 1 : 0);
                break;
            }
            case 25:
                same(what, () -> x.breaches(k), () -> model.breaches(k));
                break;
            case 26:
                same(what, () -> x.band(true), () -> model.band(true));
                break;
            case 27:
                same(what, () -> x.band(false), () -> model.band(false));
                break;
            case 40: {
                int seconds = below(10) == 0 ? about(1, 600) : about(1, below(2) == 0 ? 3 : 40);
                same(what, () -> x.run(seconds), () -> model.run(seconds));
                break;
            }
            case 41:
                same(what, () -> x.callBus(k, m), () -> model.callBus(k, m));
                break;
            case 42:
                same(what, () -> x.clock(), () -> model.clock());
                break;
            case 43:
                same(what, () -> x.phaseNow(k), () -> model.phaseNow(k));
                break;
            case 44:
                same(what, () -> x.queue(k), () -> model.queue(k));
                break;
            case 45:
                same(what, () -> x.held(k), () -> model.held(k));
                break;
            case 46:
                same(what, () -> x.come(), () -> model.come());
                break;
            case 47:
                same(what, () -> x.through() + 10000 * x.junctions(), () -> model.through() + 10000 * model.junctions());
                break;
            case 60:
                same(what, () -> x.improve(), () -> model.improve());
                for (int junction = 1; junction < model.junctions(); junction++) {
                    int j = junction;
                    same(what, () -> x.offset(j), () -> model.offset(j));
                }
                break;
            default:
                same(what, () -> x.bestByAll(), () -> model.bestByAll());
        }
    }

    private static void same(String what, Check.Call got, Check.Call due) {
        check.same(what, Check.answerOf(got), Check.answerOf(due));
    }
}
