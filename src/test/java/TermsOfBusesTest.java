import java.util.function.Supplier;

/**
 * The document's sentences on bus calls, each with what is just inside its boundary, at it and just
 * outside it. Above each test stand the words that it tests.
 */
public final class TermsOfBusesTest {
    private static final int NONE = Greenwave.NONE;
    private static final Check check = new Check("TermsOfBusesTest");

    public static void main(String[] args) {
        greenIsLengthenedByWhatTheNextOneHas();
        greenOfWalkersKeeps8();
        greenIsBroughtForwardByWhatIsBehind();
        greenIsBroughtForwardByWhatTheCurrentOneHas();
        currentGreenOfWalkersKeeps8();
        eachSecondOfTwoPhases();
        eachSecondOfThreePhases();
        lastOfFourPhases();
        lowestPhaseWithTheMovement();
        singlePhaseHasNothing();
        clearingsHaveNothing();
        changeIsForThisCycleAlone();
        cycleAheadOfTheOffset();
        oneCallInACycle();
        oneCallInEachOfManyCycles();
        oneCallAtEachJunction();
        callOfNothingIsACall();
        callEndsTheSettingUp();
        plansStayAsTheyAre();
        vehiclesGoByTheChangedGreens();
        beginForgetsTheCall();
        check.finish();
    }

    /** Phases with the movements 0 and 1, and 2; left are 60 - 10 - 6 = 44, of which the phase 0 has first. */
    private static Greenwave sharing(int first) {
        Greenwave x = new Greenwave();
        x.setPhases(0, 3, 4, 0, 0);
        x.setFlow(0, 0, first);
        x.setFlow(0, 2, 44 - first);
        check.is("5 and its share", x.green(0, 0), 5 + first);
        check.is("5 and its share, phase 1", x.green(0, 1), 5 + 44 - first);
        return x;
    }

    private static Greenwave after(int seconds, Greenwave x) {
        if (seconds > 0) {
            x.run(seconds);
        }
        return x;
    }

    /** Each second up to the end of the cycle, and the whole next one by the plan. */
    private static void isCycle(String what, Greenwave x, int from, int[] changed, int[] planned) {
        for (int second = from; second < 120; second++) {
            int due = phaseIn(second % 60, second < 60 ? changed : planned);
            check.is(what + ": the phase in " + second, x.phaseNow(0), due);
            x.run(1);
        }
    }

    /** The phase of a second of the cycle, with clearings of 3. */
    private static int phaseIn(int since, int[] greens) {
        int begin = 0;
        for (int p = 0; p < greens.length; p++) {
            if (since >= begin && since < begin + greens[p]) {
                return p;
            }
            begin += greens[p] + 3;
        }
        return NONE;
    }

    // ---- how many seconds

    /** "the lesser one of 5 and what the green of the phase behind p is above its least green" */
    private static void greenIsLengthenedByWhatTheNextOneHas() {
        for (int above = 0; above <= 44; above++) {
            int due = Math.min(5, above);
            for (int second = 0; second <= 5 + 44 - above - 1; second += 4) {
                Greenwave x = after(second, sharing(44 - above));
                check.is("the next one is above by " + above, x.callBus(0, 1), due);
                isCycle("longer", x, second, new int[] {49 - above + due, 5 + above - due},
                        new int[] {49 - above, 5 + above});
            }
        }
    }

    /** The same with a phase behind that has the movement 3; left are 41. */
    private static void greenOfWalkersKeeps8() {
        for (int above = 0; above <= 7; above++) {
            Greenwave x = new Greenwave();
            x.setFlow(0, 0, 41 - above);
            x.setFlow(0, 2, above);
            check.is("8 and its share", x.green(0, 1), 8 + above);
            check.is("above by " + above, x.callBus(0, 0), Math.min(5, above));
        }
    }

    /** "the least of 5, the seconds of the green of c behind this one, and ..": the green is of 26 seconds. */
    private static void greenIsBroughtForwardByWhatIsBehind() {
        int[] due = {5, 5, 5, 5, 5, 5, 4, 3, 2, 1, 0};
        for (int second = 15; second <= 25; second++) {
            for (int movement = 2; movement <= 3; movement++) {
                Greenwave x = Corridors.ran(second);
                int n = due[second - 15];
                check.is((25 - second) + " behind", x.callBus(0, movement), n);
                isCycle("forward", x, second, new int[] {26 - n, 28 + n}, new int[] {26, 28});
            }
        }
    }

    /** "and what this green is above its least one": in its first second, with at least 4 behind. */
    private static void greenIsBroughtForwardByWhatTheCurrentOneHas() {
        for (int above = 0; above <= 44; above++) {
            Greenwave x = sharing(above);
            int n = Math.min(5, above);
            check.is("this one is above by " + above, x.callBus(0, 2), n);
            isCycle("forward", x, 0, new int[] {5 + above - n, 49 - above + n}, new int[] {5 + above, 49 - above});
        }
        int[] due = {2, 2, 2, 2, 2, 1, 0};
        for (int second = 0; second < 7; second++) {
            check.is("2 above, " + (6 - second) + " behind", after(second, sharing(2)).callBus(0, 2), due[second]);
            if (second < 5) {
                check.is("nothing is above", after(second, sharing(0)).callBus(0, 2), 0);
            }
        }
    }

    /** The same with a current phase that has the movement 3; left are 41. */
    private static void currentGreenOfWalkersKeeps8() {
        for (int above = 0; above <= 7; above++) {
            Greenwave x = new Greenwave();
            x.setPhases(0, 12, 3, 0, 0);
            x.setFlow(0, 2, above);
            x.setFlow(0, 0, 41 - above);
            check.is("8 and its share", x.green(0, 0), 8 + above);
            check.is("above by " + above, x.callBus(0, 0), Math.min(5, above));
        }
    }

    // ---- in which second, for which phase

    /** By the plan 0 to 25 are green for the phase 0, and 29 to 56 for the phase 1, which is the last one. */
    private static void eachSecondOfTwoPhases() {
        for (int second = 0; second < 60; second++) {
            for (int movement = 0; movement < 4; movement++) {
                Greenwave x = after(second, new Greenwave());
                int due = second > 25 ? 0 : movement < 2 ? 5 : Math.min(5, 25 - second);
                check.is("in " + second + " for " + movement, x.callBus(0, movement), due);
            }
        }
    }

    /** Three phases of 17 seconds for the movements 0, 2 and 1, in a cycle of 60. */
    private static Greenwave three() {
        Greenwave x = new Greenwave();
        x.setPhases(0, 1, 4, 2, 0);
        x.setConflict(0, 0, 1, 3);
        check.is("60 - 15 - 9 = 36", x.green(0, 2), 17);
        return x;
    }

    /** "If c is p, and p is not the last phase", "If p is higher than c", "In all other cases n is 0" */
    private static void eachSecondOfThreePhases() {
        int[] planned = {17, 17, 17};
        int[] movements = {0, 2, 1};
        for (int second = 0; second < 60; second++) {
            for (int p = 0; p < 3; p++) {
                Greenwave x = after(second, three());
                int[] changed = planned.clone();
                int due = dueOfThree(second, phaseIn(second, planned), p, changed);
                check.is("in " + second + " for the phase " + p, x.callBus(0, movements[p]), due);
                isCycle("of three", x, second, changed, planned);
            }
        }
    }

    /** What a call gives where each phase is 12 above its least green, with the greens that come of it. */
    private static int dueOfThree(int second, int c, int p, int[] greens) {
        if (c == NONE || c > p || c == 2) {
            return 0;
        }
        int n = 5;
        if (c == p) {
            greens[p] += n;
            greens[p + 1] -= n;
            return n;
        }
        int behind = c * 20 + 16 - second;
        n = Math.min(5, behind);
        greens[c] -= n;
        greens[p] += n;
        return n;
    }

    /** Four phases of 9, 8, 8 and 11 seconds in a cycle of 48, with clearings of 3. */
    private static Greenwave four() {
        Greenwave x = Corridors.made(2, 48);
        x.setPhases(0, 1, 4, 2, 12);
        return x;
    }

    /** "for the last phase": it can be brought forward, but not be made longer from the one behind. */
    private static void lastOfFourPhases() {
        int[] seconds = {0, 4, 5, 8, 9, 12, 17, 19, 20, 23, 28, 30, 31, 34, 44, 45, 47};
        int[] due = {4, 4, 3, 0, 0, 3, 2, 0, 0, 3, 2, 0, 0, 0, 0, 0, 0};
        for (int i = 0; i < seconds.length; i++) {
            Greenwave x = after(seconds[i], four());
            check.is("in " + seconds[i] + " for the last phase", x.callBus(0, 3), due[i]);
        }
        Greenwave first = four();
        first.callBus(0, 3);
        check.same("those between keep their length", Corridors.phases(first, 0, 96),
                "0:5 -:3 1:8 -:3 2:8 -:3 3:15 -:3 0:9 -:3 1:8 -:3 2:8 -:3 3:11 -:3");
    }

    /** The movements 0 and 2 in two phases each, of 12 seconds all. */
    private static Greenwave twice() {
        Greenwave x = new Greenwave();
        x.setPhases(0, 1, 4, 1, 4);
        return x;
    }

    /** "p the lowest phase that has the movement": 0 in the phases 0 and 2, 2 in the phases 1 and 3. */
    private static void lowestPhaseWithTheMovement() {
        int[] begins = {0, 15, 30, 45};
        int[] dueForward = {5, 0, 0, 0};
        int[] dueSide = {5, 5, 0, 0};
        for (int c = 0; c < 4; c++) {
            Greenwave x = after(begins[c], twice());
            check.is("the phase", x.phaseNow(0), c);
            check.is("for 0 in the phase " + c, x.callBus(0, 0), dueForward[c]);
            check.is("for 2 in the phase " + c, after(begins[c], twice()).callBus(0, 2), dueSide[c]);
        }
        Greenwave y = twice();
        y.callBus(0, 2);
        check.same("the phase 1 comes earlier, 3 does not", Corridors.phases(y, 0, 60),
                "0:7 -:3 1:17 -:3 2:12 -:3 3:12 -:3");
    }

    /** "and p is not the last phase": a single phase is the last one. */
    private static void singlePhaseHasNothing() {
        for (int second = 0; second < 120; second += 7) {
            Greenwave x = new Greenwave();
            x.setPhases(0, 3, 0, 0, 0);
            after(second, x);
            check.is("in " + second, x.callBus(0, second % 2), 0);
            check.same("always green", Corridors.phases(x, 0, 100), "0:100");
        }
    }

    /** "the phase of which this second lies in the green, if there is one": in a clearing there is none. */
    private static void clearingsHaveNothing() {
        int[] seconds = {26, 27, 28, 57, 58, 59};
        for (int second : seconds) {
            for (int movement = 0; movement < 4; movement++) {
                Greenwave x = Corridors.ran(second);
                check.is("no phase", x.phaseNow(0), NONE);
                check.is("in the clearing in " + second, x.callBus(0, movement), 0);
                isCycle("unchanged", x, second, new int[] {26, 28}, new int[] {26, 28});
            }
        }
        check.is("just ahead of the clearing", Corridors.ran(25).callBus(0, 0), 5);
        check.is("just behind the clearings", Corridors.ran(60).callBus(0, 0), 5);
    }

    // ---- in which cycle

    /** "All this is for this cycle alone." */
    private static void changeIsForThisCycleAlone() {
        for (int offset = 0; offset < 60; offset++) {
            Greenwave x = new Greenwave();
            x.setOffset(0, offset);
            x.run(60 + offset);
            check.is("the first second of a cycle", x.callBus(0, 0), 5);
            check.same("one cycle changed", Corridors.phases(x, 0, 120), "0:31 -:3 1:23 -:3 0:26 -:3 1:28 -:3");
        }
    }

    /** "without an end ahead": the second 0 lies in the cycle that began before it. */
    private static void cycleAheadOfTheOffset() {
        for (int offset = 35; offset < 60; offset++) {
            Greenwave x = new Greenwave();
            x.setOffset(0, offset);
            int gone = 60 - offset;
            check.is("green for " + gone, x.callBus(0, 0), 5);
            check.same("from the second 0 on", Corridors.phases(x, 0, offset + 60),
                    "0:" + (31 - gone) + " -:3 1:23 -:3 0:26 -:3 1:28 -:3");
        }
    }

    /** "a bus has called in this cycle of this junction": up to its last second, and no longer. */
    private static void oneCallInACycle() {
        for (int offset = 0; offset < 60; offset++) {
            int next = offset == 0 ? 60 : offset;
            for (int second : new int[] {0, next - 1}) {
                Greenwave x = new Greenwave();
                x.setOffset(0, offset);
                x.callBus(0, 0);
                after(second, x);
                check.same("again in " + second + " of " + next, Check.answerOf(() -> x.callBus(0, 0)),
                        "java.lang.IllegalStateException");
                x.run(next - second);
                check.is("in the first second of the next one", x.callBus(0, 0), 5);
                x.run(59);
                check.same("in the last second of it", Check.answerOf(() -> x.callBus(0, 3)),
                        "java.lang.IllegalStateException");
                x.run(1);
                check.is("and in the one behind it", x.callBus(0, 0), 5);
            }
        }
    }

    private static void oneCallInEachOfManyCycles() {
        Greenwave x = Corridors.made(2, 30);
        x.setOffset(1, 29);
        check.is("greens of 11 and 13", x.green(1, 1), 13);
        for (int cycle = 0; cycle < 60; cycle++) {
            check.is("at 0", x.callBus(0, 0), 5);
            check.is("at 1, in its second second", x.callBus(1, 2), 5);
            check.same("at 0 again", Check.answerOf(() -> x.callBus(0, 3)), "java.lang.IllegalStateException");
            check.same("at 1 again", Check.answerOf(() -> x.callBus(1, 3)), "java.lang.IllegalStateException");
            x.run(30);
        }
    }

    private static void oneCallAtEachJunction() {
        for (int junctions = 2; junctions <= 5; junctions++) {
            Greenwave x = Corridors.made(junctions, 60);
            for (int k = 0; k < junctions; k++) {
                check.is("at " + k, x.callBus(k, k % 2), 5);
                int place = k;
                check.same("again at " + k, Check.answerOf(() -> x.callBus(place, 0)),
                        "java.lang.IllegalStateException");
            }
            x.run(30);
            for (int k = 0; k < junctions; k++) {
                check.is("each has its own green", x.phaseNow(k), 0);
            }
        }
    }

    /** "In all other cases n is 0; that is a call, too." */
    private static void callOfNothingIsACall() {
        int[] seconds = {25, 26, 29, 56, 59};
        for (int second : seconds) {
            Greenwave x = Corridors.ran(second);
            check.is("nothing in " + second, x.callBus(0, 3), 0);
            check.same("at once", Check.answerOf(() -> x.callBus(0, 3)), "java.lang.IllegalStateException");
            after(59 - second, x);
            check.same("in the last second", Check.answerOf(() -> x.callBus(0, 0)),
                    "java.lang.IllegalStateException");
            x.run(1);
            check.is("in the next cycle", x.callBus(0, 0), 5);
        }
    }

    // ---- what a call leaves and what it does not

    /** "or a bus has called": for each call of the setting up, also where the bus gets nothing. */
    private static void callEndsTheSettingUp() {
        for (int movement = 0; movement < 4; movement++) {
            int m = movement;
            for (int offset = 0; offset < 60; offset += 20) {
                int o = offset;
                Supplier<Greenwave> make = () -> {
                    Greenwave x = new Greenwave();
                    x.setOffset(1, o);
                    x.callBus(1, m);
                    return x;
                };
                check.refusesState("setConflict", make, g -> g.setConflict(0, 0, 1, NONE));
                check.refusesState("setPhases", make, g -> g.setPhases(0, 3, 12, 0, 0));
                check.refusesState("setFlow", make, g -> g.setFlow(0, 0, 1));
                check.refusesState("setLink", make, g -> g.setLink(0, 11, 19));
                check.refusesState("setOffset", make, g -> g.setOffset(0, 1));
                check.refusesState("improve", make, g -> g.improve());
            }
        }
    }

    private static String plans(Greenwave x) {
        StringBuilder text = new StringBuilder();
        for (int k = 0; k < 2; k++) {
            text.append(x.green(k, 0)).append(' ').append(x.green(k, 1)).append(' ').append(x.clearing(k, 0));
            text.append(' ').append(x.offset(k)).append(' ').append(x.breaches(k)).append(' ');
            for (int second = 0; second < 60; second++) {
                text.append(x.isGreen(k, second % 4, second) ? 1 : 0);
            }
        }
        text.append(' ').append(x.band(true)).append(' ').append(x.band(false)).append(' ').append(x.bestByAll());
        return text.toString();
    }

    /** What is told "by the plan" does not change with a bus. */
    private static void plansStayAsTheyAre() {
        String due = plans(new Greenwave());
        for (int second = 1; second < 60; second++) {
            Greenwave x = Corridors.ran(second);
            x.callBus(0, second % 4);
            x.callBus(1, (second + 2) % 4);
            check.same("in " + second, plans(x), due);
        }
    }

    /** "If its movement 0 is green in this second (with what bus calls changed)": in 1, 3, .. 29 of 31 seconds. */
    private static void vehiclesGoByTheChangedGreens() {
        int[] changes = {0, 5, -5};
        int[] due = {13, 15, 10};
        for (int i = 0; i < changes.length; i++) {
            Greenwave x = new Greenwave();
            x.setFlow(0, 0, 1800);
            x.setFlow(0, 3, 1800);
            x.setLink(0, 10, 40);
            check.is("the green is of 26", x.green(0, 0), 26);
            check.is("the call", changes[i] == 0 ? 0 : x.callBus(0, changes[i] > 0 ? 0 : 3), Math.abs(changes[i]));
            x.run(60);
            check.is("left with " + changes[i], x.held(0) + x.through(), due[i]);
            x.run(60);
            check.is("as planned then", x.held(0) + x.through(), due[i] + 13);
        }
    }

    /** "all else is as at first": a bus may call at once, and the greens are those of the plan. */
    private static void beginForgetsTheCall() {
        for (int second = 1; second < 60; second += 4) {
            Greenwave x = Corridors.ran(second);
            x.callBus(0, 3);
            x.callBus(1, 0);
            x.begin(2, 60);
            check.same("by the plan", Corridors.phases(x, 0, 120), "0:26 -:3 1:28 -:3 0:26 -:3 1:28 -:3");
            x.begin(2, 60);
            check.is("a call at 0", x.callBus(0, 0), 5);
            check.is("a call at 1", x.callBus(1, 2), 5);
        }
    }
}
