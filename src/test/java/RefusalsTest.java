import java.util.Arrays;
import java.util.function.Supplier;

/**
 * What each call throws: all that its throws clause names is brought about one by one and together;
 * what is named first is thrown, nothing is thrown without a cause, and a refused call changes nothing.
 */
public final class RefusalsTest {
    private static final int NONE = Greenwave.NONE;
    private static final int[] JUNCTIONS = {0, 1, 2, -1};
    private static final int[] MOVEMENTS = {0, 3, 4, -1};
    private static final Check check = new Check("RefusalsTest");

    /** Whether something can still be set up. */
    private enum Stage { SETTING_UP, SECOND_HAS_RUN, BUS_HAS_CALLED, BOTH }

    public static void main(String[] args) {
        countsCanAlwaysBeAsked();
        allElseCanBeAskedAtAnyTime();
        beginNeverTooLate();
        setConflict();
        setPhases();
        setFlow();
        setLink();
        setOffset();
        improve();
        improveAndPlans();
        asksOfOneJunction();
        greenAndClearing();
        isGreen();
        bandsAndPlans();
        bestByAllAndSizes();
        run();
        runAndTheClock();
        callBus();
        callBusTwice();
        refusedCallsDoNotBegin();
        check.finish();
    }

    private static boolean isOutside(int value, int least, int most) {
        return value < least || value > most;
    }

    private static Greenwave at(Stage stage, Greenwave x) {
        if (stage == Stage.BUS_HAS_CALLED || stage == Stage.BOTH) {
            x.callBus(0, 0);
        }
        if (stage == Stage.SECOND_HAS_RUN || stage == Stage.BOTH) {
            x.run(1);
        }
        return x;
    }

    private static Supplier<Greenwave> pairAt(Stage stage) {
        return () -> at(stage, new Greenwave());
    }

    // ---- setting up

    /** junctions, clock, come and through have no throws clause. */
    private static void countsCanAlwaysBeAsked() {
        for (Stage stage : Stage.values()) {
            check.takes("junctions", pairAt(stage), g -> g.junctions());
            check.takes("clock", pairAt(stage), g -> g.clock());
            check.takes("come", pairAt(stage), g -> g.come());
            check.takes("through", pairAt(stage), g -> g.through());
        }
        check.takes("without a plan", () -> Corridors.planless(2), g -> {
            g.junctions();
            g.clock();
            g.come();
            g.through();
        });
    }

    /** "Greens, bands, queues and conflicts can be asked at any time." */
    private static void allElseCanBeAskedAtAnyTime() {
        for (Stage stage : Stage.values()) {
            Supplier<Greenwave> make = pairAt(stage);
            check.takes("hasPlan, " + stage, make, g -> g.hasPlan(1));
            check.takes("green, " + stage, make, g -> g.green(1, 1));
            check.takes("clearing, " + stage, make, g -> g.clearing(1, 1));
            check.takes("offset, " + stage, make, g -> g.offset(1));
            check.takes("isGreen, " + stage, make, g -> g.isGreen(1, 3, 100000));
            check.takes("breaches, " + stage, make, g -> g.breaches(1));
            check.takes("band, " + stage, make, g -> g.band(true));
            check.takes("band back, " + stage, make, g -> g.band(false));
            check.takes("bestByAll, " + stage, make, g -> g.bestByAll());
            check.takes("phaseNow, " + stage, make, g -> g.phaseNow(1));
            check.takes("queue, " + stage, make, g -> g.queue(1));
            check.takes("held, " + stage, make, g -> g.held(0));
            check.takes("run, " + stage, make, g -> g.run(1));
            check.takes("callBus at 1, " + stage, make, g -> g.callBus(1, 3));
        }
    }

    /** "also when seconds have run": begin names no IllegalStateException. */
    private static void beginNeverTooLate() {
        int[] junctions = {1, 2, 5, 6};
        int[] cycles = {29, 30, 90, 91};
        for (Stage stage : Stage.values()) {
            for (int n : junctions) {
                for (int c : cycles) {
                    check.throwsFirst("begin(" + n + ", " + c + "), " + stage, pairAt(stage), g -> g.begin(n, c),
                            false, isOutside(n, 2, 5) || isOutside(c, 30, 90), false);
                }
            }
        }
        check.takes("begin without a plan", () -> Corridors.planless(2), g -> g.begin(2, 30));
    }

    private static void setConflict() {
        for (Stage stage : Stage.values()) {
            for (int junction : JUNCTIONS) {
                for (int movement : MOVEMENTS) {
                    for (int other = -1; other <= 4; other++) {
                        setConflict(stage, junction, movement, other);
                    }
                }
            }
        }
    }

    private static void setConflict(Stage stage, int junction, int movement, int other) {
        int[] clearances = {NONE, 0, 9, 10, -2};
        for (int c : clearances) {
            boolean isIndexWrong = isOutside(junction, 0, 1) || isOutside(movement, 0, 3) || isOutside(other, 0, 3);
            boolean isArgumentWrong = movement == other || isOutside(c, NONE, 9);
            boolean isOnePhase = c != NONE && movement / 2 == other / 2;
            check.throwsFirst("setConflict(" + junction + ", " + movement + ", " + other + ", " + c + "), " + stage,
                    pairAt(stage), g -> g.setConflict(junction, movement, other, c),
                    isIndexWrong, isArgumentWrong, isOnePhase || stage != Stage.SETTING_UP);
        }
    }

    private static void setPhases() {
        int[][] right = {{3, 12, 0, 0}, {1, 0, 0, 0}, {8, 4, 2, 1}, {3, 3, 12, 12}};
        int[][] outOfRange = {
            {0, 12, 0, 0}, {16, 12, 0, 0}, {3, 16, 0, 0}, {3, -1, 0, 0}, {3, 0, 12, 0}, {3, 12, 16, 0},
            {3, 12, 0, 3}, {3, 0, 0, 12}, {3, 12, 3, 16}, {0, 0, 0, 0}, {5, 16, 0, 0}, {15, 15, 0, 15}
        };
        int[][] conflicting = {{5, 12, 0, 0}, {3, 6, 0, 0}, {3, 12, 9, 0}, {3, 12, 3, 10}, {15, 0, 0, 0}};
        for (Stage stage : Stage.values()) {
            for (int junction : JUNCTIONS) {
                boolean isLate = stage != Stage.SETTING_UP;
                for (int[] sets : right) {
                    setPhases(stage, junction, sets, false, isLate);
                }
                for (int[] sets : outOfRange) {
                    setPhases(stage, junction, sets, true, isLate);
                }
                for (int[] sets : conflicting) {
                    setPhases(stage, junction, sets, false, true);
                }
            }
        }
    }

    private static void setPhases(Stage stage, int junction, int[] sets,
            boolean isArgumentWrong, boolean isStateWrong) {
        check.throwsFirst("setPhases(" + junction + ", " + Arrays.toString(sets) + "), " + stage,
                pairAt(stage), g -> g.setPhases(junction, sets[0], sets[1], sets[2], sets[3]),
                isOutside(junction, 0, 1), isArgumentWrong, isStateWrong);
    }

    private static void setFlow() {
        int[] flows = {0, 1800, -1, 1801};
        for (Stage stage : Stage.values()) {
            for (int k : JUNCTIONS) {
                for (int m : MOVEMENTS) {
                    for (int flow : flows) {
                        check.throwsFirst("setFlow(" + k + ", " + m + ", " + flow + "), " + stage,
                                pairAt(stage), g -> g.setFlow(k, m, flow),
                                isOutside(k, 0, 1) || isOutside(m, 0, 3), isOutside(flow, 0, 1800),
                                stage != Stage.SETTING_UP);
                    }
                }
            }
        }
    }

    /** Of 3 junctions 0 and 1 have links, 2 is the last one, and there is no 3. */
    private static void setLink() {
        int[] places = {0, 1, 2, 3, -1};
        int[] times = {1, 60, 0, 61};
        int[] rooms = {1, 40, 0, 41};
        for (Stage stage : Stage.values()) {
            for (int k : places) {
                for (int seconds : times) {
                    for (int room : rooms) {
                        check.throwsFirst("setLink(" + k + ", " + seconds + ", " + room + "), " + stage,
                                () -> at(stage, Corridors.made(3, 60)), g -> g.setLink(k, seconds, room),
                                isOutside(k, 0, 1), isOutside(seconds, 1, 60) || isOutside(room, 1, 40),
                                stage != Stage.SETTING_UP);
                    }
                }
            }
        }
    }

    private static void setOffset() {
        int[] offsets = {0, 49, -1, 50};
        for (Stage stage : Stage.values()) {
            for (int k : JUNCTIONS) {
                for (int offset : offsets) {
                    check.throwsFirst("setOffset(" + k + ", " + offset + "), " + stage,
                            () -> at(stage, Corridors.made(2, 50)), g -> g.setOffset(k, offset),
                            isOutside(k, 0, 1), isOutside(offset, 0, 49), stage != Stage.SETTING_UP);
                }
            }
        }
    }

    /** Offsets that improve would change, if it were not refused. */
    private static Greenwave unimproved(Greenwave x) {
        for (int k = 0; k < x.junctions(); k++) {
            x.setOffset(k, 29 - 5 * k);
        }
        return x;
    }

    private static void improve() {
        for (Stage stage : Stage.values()) {
            check.throwsFirst("improve, " + stage, () -> at(stage, unimproved(new Greenwave())), g -> g.improve(),
                    false, false, stage != Stage.SETTING_UP);
        }
    }

    private static void improveAndPlans() {
        for (int junctions = 2; junctions <= 5; junctions++) {
            int n = junctions;
            check.takes("improve " + n, () -> unimproved(Corridors.made(n, 30)), g -> g.improve());
            for (int without = 0; without < n; without++) {
                int k = without;
                check.refusesState("improve without " + k, () -> unimproved(Corridors.planlessAt(k, n)),
                        g -> g.improve());
            }
        }
    }

    // ---- plans

    /** Of 2 junctions 0 has a plan and 1 has none. */
    private static void asksOfOneJunction() {
        Supplier<Greenwave> make = () -> Corridors.planless(2);
        for (int k : JUNCTIONS) {
            boolean isMissing = isOutside(k, 0, 1);
            boolean isPlanless = k == 1;
            check.throwsFirst("hasPlan " + k, make, g -> g.hasPlan(k), isMissing, false, false);
            check.throwsFirst("offset " + k, make, g -> g.offset(k), isMissing, false, false);
            check.throwsFirst("queue " + k, make, g -> g.queue(k), isMissing, false, false);
            check.throwsFirst("held " + k, make, g -> g.held(k), isOutside(k, 0, 0), false, false);
            check.throwsFirst("breaches " + k, make, g -> g.breaches(k), isMissing, false, isPlanless);
            check.throwsFirst("phaseNow " + k, make, g -> g.phaseNow(k), isMissing, false, isPlanless);
        }
    }

    private static void greenAndClearing() {
        Supplier<Greenwave> make = () -> Corridors.planless(2);
        for (int k : JUNCTIONS) {
            for (int phase = -1; phase <= 4; phase++) {
                int p = phase;
                boolean isMissing = isOutside(k, 0, 1) || isOutside(p, 0, 1);
                check.throwsFirst("green " + k + ", " + p, make, g -> g.green(k, p), isMissing, false, k == 1);
                check.throwsFirst("clearing " + k + ", " + p, make, g -> g.clearing(k, p), isMissing, false, false);
            }
        }
    }

    private static void isGreen() {
        int[] seconds = {0, 100000, -1, 100001};
        for (int k : JUNCTIONS) {
            for (int m : MOVEMENTS) {
                for (int second : seconds) {
                    check.throwsFirst("isGreen(" + k + ", " + m + ", " + second + ")",
                            () -> Corridors.planless(2), g -> g.isGreen(k, m, second),
                            isOutside(k, 0, 1) || isOutside(m, 0, 3), isOutside(second, 0, 100000), k == 1);
                }
            }
        }
    }

    private static void bandsAndPlans() {
        for (int junctions = 2; junctions <= 5; junctions++) {
            int n = junctions;
            check.takes("band", () -> Corridors.made(n, 30), g -> g.band(true));
            check.takes("band back", () -> Corridors.made(n, 30), g -> g.band(false));
            for (int without = 0; without < n; without++) {
                int k = without;
                check.refusesState("band without " + k, () -> Corridors.planlessAt(k, n), g -> g.band(true));
                check.refusesState("band back without " + k, () -> Corridors.planlessAt(k, n), g -> g.band(false));
            }
        }
    }

    /** "a junction has no plan, or there are more than 3 junctions". */
    private static void bestByAllAndSizes() {
        for (int junctions = 2; junctions <= 5; junctions++) {
            int n = junctions;
            check.throwsFirst("bestByAll of " + n, () -> Corridors.made(n, 30), g -> g.bestByAll(),
                    false, false, n > 3);
            for (int without = 0; without < n; without++) {
                int k = without;
                check.refusesState("bestByAll without " + k, () -> Corridors.planlessAt(k, n), g -> g.bestByAll());
            }
        }
        for (Stage stage : Stage.values()) {
            check.takes("bestByAll, " + stage, () -> at(stage, Corridors.made(3, 30)), g -> g.bestByAll());
        }
    }

    // ---- running

    private static void run() {
        int[] amounts = {0, 1, 600, 601};
        for (int seconds : amounts) {
            boolean isArgumentWrong = isOutside(seconds, 1, 600);
            for (int junctions = 2; junctions <= 5; junctions++) {
                int n = junctions;
                check.throwsFirst("run " + seconds, () -> Corridors.made(n, 30), g -> g.run(seconds),
                        false, isArgumentWrong, false);
                for (int without = 0; without < n; without++) {
                    int k = without;
                    check.throwsFirst("run " + seconds + " without " + k, () -> Corridors.planlessAt(k, n),
                            g -> g.run(seconds), false, isArgumentWrong, true);
                }
            }
        }
    }

    private static Greenwave ranTo(int clock) {
        Greenwave x = Corridors.made(3, 60);
        x.setFlow(0, 0, 1234);
        for (int left = clock; left > 0; left -= 600) {
            x.run(Math.min(600, left));
        }
        return x;
    }

    /** "the clock would be above 7200". */
    private static void runAndTheClock() {
        int[] clocks = {6599, 6600, 6601, 7198, 7199, 7200};
        int[] amounts = {0, 1, 2, 599, 600, 601};
        for (int clock : clocks) {
            for (int seconds : amounts) {
                check.throwsFirst("run " + seconds + " from " + clock, () -> ranTo(clock), g -> g.run(seconds),
                        false, isOutside(seconds, 1, 600), clock + seconds > 7200);
            }
        }
        Greenwave x = ranTo(6600);
        x.run(600);
        check.is("7200 can be reached", x.clock(), 7200);
        check.takes("a bus calls in 7200", () -> ranTo(7200), g -> g.callBus(0, 0));
        check.is("phaseNow in 7200", x.phaseNow(0), 0);
    }

    /** At the junction 0 no phase has the movement 3; at 1 each one is in some phase. */
    private static void callBus() {
        for (int without = -1; without < 3; without++) {
            int planless = without;
            for (int k : new int[] {0, 1, 2, 3, -1}) {
                for (int movement = -1; movement <= 4; movement++) {
                    int m = movement;
                    check.throwsFirst("callBus(" + k + ", " + m + ") without " + planless, () -> {
                        Greenwave x = planless < 0 ? Corridors.made(3, 30) : Corridors.planlessAt(planless, 3);
                        x.setPhases(0, 3, 4, 0, 0);
                        if (planless == 0) {
                            x.setConflict(0, 1, 2, 9);
                            x.setPhases(0, 1, 4, 1, 4);
                        }
                        return x;
                    }, g -> g.callBus(k, m), isOutside(k, 0, 2) || isOutside(m, 0, 3), false,
                            planless >= 0 || k == 0 && m == 3);
                }
            }
        }
    }

    /** "a bus has called in this cycle of this junction". */
    private static void callBusTwice() {
        for (int first = 0; first < 4; first++) {
            int f = first;
            for (int second = -1; second <= 4; second++) {
                int m = second;
                for (int k : JUNCTIONS) {
                    check.throwsFirst("bus for " + f + " at 0, bus for " + m + " at " + k, () -> {
                        Greenwave x = new Greenwave();
                        x.callBus(0, f);
                        return x;
                    }, g -> g.callBus(k, m), isOutside(k, 0, 1) || isOutside(m, 0, 3), false, k == 0);
                }
            }
        }
    }

    /** A refused run or bus call is none: all can still be set up. */
    private static void refusedCallsDoNotBegin() {
        Greenwave x = Corridors.planless(3);
        check.same("run 0", Check.answerOf(() -> x.run(0)), "java.lang.IllegalArgumentException");
        check.same("run", Check.answerOf(() -> x.run(1)), "java.lang.IllegalStateException");
        check.same("callBus", Check.answerOf(() -> x.callBus(0, 0)), "java.lang.IllegalStateException");
        check.same("callBus 4", Check.answerOf(() -> x.callBus(0, 4)), "java.lang.IndexOutOfBoundsException");
        check.is("setFlow", x.setFlow(0, 0, 1800), 0);
        check.is("setConflict", x.setConflict(2, 0, 2, 3), 9);
        check.is("setOffset", x.setOffset(0, 29), 0);
        check.is("setPhases", x.setPhases(0, 1, 0, 0, 0), 1);
        check.same("callBus for no phase", Check.answerOf(() -> x.callBus(0, 2)), "java.lang.IllegalStateException");
        check.is("setPhases again", x.setPhases(0, 3, 12, 0, 0), 2);
        x.setLink(0, 60, 40);
        check.is("clock", x.clock(), 0);
        check.is("a bus may call", x.callBus(0, 3), 5);
    }
}
