import java.util.function.Supplier;

/** Promises 9 to 17: what is asked of the plans. */
public final class PlanTest {
    private static final int NONE = Greenwave.NONE;
    private static final Check check = new Check("PlanTest");

    public static void main(String[] args) {
        junctionsAreCounted();
        plansFitOrNot();
        greensShareWhatIsLeft();
        greenRefuses();
        clearingsAreTheGreatest();
        clearingRefuses();
        offsetsAreTold();
        movementsAreGreen();
        isGreenRefuses();
        breachesAreCounted();
        breachesRefuses();
        bandsAreMeasured();
        bandsGoRoundTheCycle();
        bandRefuses();
        bestOfAllOffsets();
        bestByAllRefuses();
        check.finish();
    }

    // ---- promise 9

    private static void junctionsAreCounted() {
        check.is("at first", new Greenwave().junctions(), 2);
        for (int junctions = 2; junctions <= 5; junctions++) {
            check.is("as begun", Corridors.made(junctions, 60).junctions(), junctions);
        }
        Greenwave x = Corridors.made(4, 60);
        x.run(10);
        check.is("also when running", x.junctions(), 4);
    }

    // ---- promise 10

    private static void plansFitOrNot() {
        check.yes("at first", new Greenwave().hasPlan(1));
        Greenwave x = Corridors.planless(2);
        check.no("31 seconds into 30", x.hasPlan(1));
        check.yes("the other one", x.hasPlan(0));
        x.setConflict(1, 0, 2, 8);
        check.yes("29 into 30", x.hasPlan(1));
        x.setConflict(1, 1, 3, 9);
        check.no("31 into 30 again", x.hasPlan(1));
        x.setPhases(1, 3, 4, 0, 0);
        check.yes("5 + 5 + 8 + 8 into 30", x.hasPlan(1));
        Greenwave y = Corridors.made(2, 31);
        y.setConflict(0, 0, 2, 9);
        check.yes("31 into 31", y.hasPlan(0));
        check.is("the least green alone", y.green(0, 0), 5);
        check.is("the least green alone, with walkers", y.green(0, 1), 8);
        y.setFlow(0, 0, 1800);
        check.is("nothing is left to share", y.green(0, 0), 5);
        check.refusesIndex("junction -1", () -> Corridors.planless(2), g -> g.hasPlan(-1));
        check.refusesIndex("junction 2", () -> Corridors.planless(2), g -> g.hasPlan(2));
        check.refusesIndex("far off", () -> Corridors.planless(2), g -> g.hasPlan(Integer.MAX_VALUE));
    }

    // ---- promise 11

    private static void greensShareWhatIsLeft() {
        Greenwave x = Corridors.made(2, 60);
        x.setFlow(0, 0, 900);
        x.setFlow(0, 1, 700);
        x.setFlow(0, 2, 300);
        check.is("5 + floor(41 * 900 / 1200) + 1", x.green(0, 0), 36);
        check.is("8 + floor(41 * 300 / 1200)", x.green(0, 1), 18);
        x.setFlow(0, 0, 0);
        x.setFlow(0, 1, 0);
        check.is("weight 0: 5 + 0", x.green(0, 0), 5);
        check.is("all the rest: 8 + 41", x.green(0, 1), 49);
        x.setFlow(0, 2, 0);
        check.is("all weights 0: 5 + 20 + 1", x.green(0, 0), 26);

        Greenwave y = Corridors.made(2, 61);
        y.setPhases(0, 1, 2, 4, 8);
        check.is("61 - 23 - 6 = 32: 8 each", y.green(0, 0), 13);
        check.is("walkers", y.green(0, 3), 16);
        y.setFlow(0, 0, 7);
        y.setFlow(0, 1, 7);
        y.setFlow(0, 2, 7);
        check.is("floor(32 * 7 / 21) = 10, one of the two more", y.green(0, 0), 16);
        check.is("the other one", y.green(0, 1), 16);
        check.is("no more", y.green(0, 2), 15);
        check.is("weight 0", y.green(0, 3), 8);
        y.setFlow(0, 3, 7);
        check.is("8 each", y.green(0, 3), 16);

        Greenwave z = Corridors.made(2, 64);
        z.setPhases(0, 1, 2, 4, 8);
        check.is("35: 8 each and one more", z.green(0, 0), 14);
        check.is("and one more", z.green(0, 2), 14);
        check.is("but not for the last", z.green(0, 3), 16);
    }

    private static void greenRefuses() {
        Supplier<Greenwave> make = () -> Corridors.planless(2);
        check.refusesIndex("junction -1", make, g -> g.green(-1, 0));
        check.refusesIndex("junction 2", make, g -> g.green(2, 0));
        check.refusesIndex("phase -1", make, g -> g.green(0, -1));
        check.refusesIndex("phase 2", make, g -> g.green(0, 2));
        check.refusesIndex("index ahead of state", make, g -> g.green(1, 2));
        check.refusesState("no plan", make, g -> g.green(1, 0));
        check.is("the other one has", make.get().green(0, 0), 5 + 6);
    }

    // ---- promise 12

    private static void clearingsAreTheGreatest() {
        Greenwave x = new Greenwave();
        x.setConflict(0, 0, 2, 0);
        x.setConflict(0, 0, 3, 1);
        x.setConflict(0, 1, 2, 7);
        x.setConflict(0, 1, 3, 2);
        check.is("the greatest", x.clearing(0, 0), 7);
        x.setPhases(0, 1, 4, 2, 8);
        check.is("0 and 2", x.clearing(0, 0), 0);
        check.is("2 and 1", x.clearing(0, 1), 7);
        check.is("1 and 3", x.clearing(0, 2), 2);
        check.is("3 and 0, the last one", x.clearing(0, 3), 1);
        x.setPhases(0, 3, 3, 0, 0);
        check.is("no conflicts", x.clearing(0, 0) + x.clearing(0, 1), 0);
        x.setPhases(0, 1, 0, 0, 0);
        check.is("a single phase", x.clearing(0, 0), 0);
        Greenwave y = Corridors.planless(2);
        check.is("told without a plan", y.clearing(1, 0), 9);
        check.is("told without a plan, the last", y.clearing(1, 1), 9);
    }

    private static void clearingRefuses() {
        Supplier<Greenwave> make = () -> Corridors.planless(2);
        check.refusesIndex("junction -1", make, g -> g.clearing(-1, 0));
        check.refusesIndex("junction 2", make, g -> g.clearing(2, 0));
        check.refusesIndex("phase -1", make, g -> g.clearing(1, -1));
        check.refusesIndex("phase 2", make, g -> g.clearing(1, 2));
        check.refusesIndex("phase 4", make, g -> g.clearing(0, 4));
    }

    // ---- promise 13

    private static void offsetsAreTold() {
        Greenwave x = Corridors.made(3, 90);
        x.setOffset(2, 89);
        check.is("0 at first", x.offset(1), 0);
        check.is("as set", x.offset(2), 89);
        check.refusesIndex("junction -1", () -> Corridors.made(3, 90), g -> g.offset(-1));
        check.refusesIndex("junction 3", () -> Corridors.made(3, 90), g -> g.offset(3));
    }

    // ---- promise 14

    /** The plan of a new corridor: green for 0 to 25, clear, green for 29 to 56, clear. */
    private static void movementsAreGreen() {
        Greenwave x = new Greenwave();
        int[] seconds = {0, 25, 26, 28, 29, 56, 57, 59, 60, 85, 86, 99960, 99985, 99986, 100000};
        int[] due = {3, 3, 0, 0, 12, 12, 0, 0, 3, 3, 0, 3, 3, 0, 12};
        for (int i = 0; i < seconds.length; i++) {
            for (int m = 0; m < 4; m++) {
                check.is("green in " + seconds[i], x.isGreen(0, m, seconds[i]) ? 1 : 0, due[i] >> m & 1);
            }
        }
        x.setOffset(1, 40);
        check.yes("the cycle before the offset: 5 is 25 of it", x.isGreen(1, 0, 5));
        check.no("6 is 26 of it", x.isGreen(1, 0, 6));
        check.no("9 is 29 of it", x.isGreen(1, 1, 9));
        check.yes("9 is 29 of it, for the side", x.isGreen(1, 2, 9));
        check.yes("the offset itself", x.isGreen(1, 1, 40));
        x.setPhases(0, 1, 4, 1, 4);
        check.yes("in its first phase", x.isGreen(0, 0, 0));
        check.yes("in its second one: 60 - 20 - 12 = 28, 7 each", x.isGreen(0, 0, 30));
        check.no("behind it", x.isGreen(0, 0, 42));
        check.no("in no phase", x.isGreen(0, 3, 5));
        x.callBus(0, 0);
        check.no("a bus does not change the plan", x.isGreen(0, 0, 12));
    }

    private static void isGreenRefuses() {
        Supplier<Greenwave> make = () -> Corridors.planless(2);
        check.refusesIndex("junction -1", make, g -> g.isGreen(-1, 0, 0));
        check.refusesIndex("junction 2", make, g -> g.isGreen(2, 0, 0));
        check.refusesIndex("movement -1", make, g -> g.isGreen(0, -1, 0));
        check.refusesIndex("movement 4", make, g -> g.isGreen(0, 4, 0));
        check.refusesIndex("index ahead of range and state", make, g -> g.isGreen(1, 4, -1));
        check.refusesArgument("second -1", make, g -> g.isGreen(0, 0, -1));
        check.refusesArgument("second 100001", make, g -> g.isGreen(0, 0, 100001));
        check.refusesArgument("range ahead of state", make, g -> g.isGreen(1, 0, 100001));
        check.refusesState("no plan", make, g -> g.isGreen(1, 0, 100000));
    }

    // ---- promise 15

    /** Phases 0, 1 and 2 with one movement each, and nothing cleared between 0 and 1, and 1 and 2. */
    private static Greenwave breaching(int clearance, int flow) {
        Greenwave x = Corridors.made(2, 30);
        x.setPhases(0, 1, 2, 4, 0);
        x.setConflict(0, 1, 2, 0);
        x.setConflict(0, 0, 2, clearance);
        x.setFlow(0, 0, flow);
        return x;
    }

    private static void breachesAreCounted() {
        check.is("none at first", new Greenwave().breaches(0), 0);
        check.is("greens 11, 5, 5: the last 4 seconds of 0", breaching(9, 10).breaches(0), 4);
        check.is("greens 12, 5, 5: the last 3", breaching(8, 10).breaches(0), 3);
        check.is("greens 15, 5, 5: a clearance of 5 is kept", breaching(5, 10).breaches(0), 0);
        check.is("greens 14, 5, 5: the last second", breaching(6, 10).breaches(0), 1);
        check.is("greens of 7: the last 2", breaching(9, 0).breaches(0), 2);
        check.is("greens of 8, 8, 7: kept", breaching(7, 0).breaches(0), 0);
        Greenwave x = breaching(9, 10);
        x.setOffset(0, 22);
        check.is("in 29, 0, 1 and 2", x.breaches(0), 4);
        x.setConflict(0, 0, 2, NONE);
        check.is("no conflict", x.breaches(0), 0);

        Greenwave y = Corridors.made(2, 30);
        y.setPhases(0, 4, 2, 1, 0);
        y.setConflict(0, 1, 2, 0);
        y.setConflict(0, 0, 2, 9);
        check.is("the lower one behind the higher one", y.breaches(0), 2);

        Greenwave z = Corridors.made(2, 40);
        z.setPhases(0, 1, 2, 4, 2);
        z.setConflict(0, 1, 2, 0);
        z.setConflict(0, 0, 2, 9);
        check.is("greens of 10", z.breaches(0), 0);
        z.setFlow(0, 0, 1800);
        check.is("greens of 25, 5, 5, 5: 4 of 0 ahead of 2, 4 of 2 ahead of 0", z.breaches(0), 8);
    }

    private static void breachesRefuses() {
        Supplier<Greenwave> make = () -> Corridors.planless(2);
        check.refusesIndex("junction -1", make, g -> g.breaches(-1));
        check.refusesIndex("junction 2", make, g -> g.breaches(2));
        check.refusesState("no plan", make, g -> g.breaches(1));
        check.is("the other one has", make.get().breaches(0), 0);
    }

    // ---- promise 16

    private static void bandsAreMeasured() {
        Greenwave x = new Greenwave();
        check.is("26 - 10", x.band(true), 16);
        check.is("26 - 10 back", x.band(false), 16);
        x.setOffset(1, 10);
        check.is("26", x.band(true), 26);
        check.is("26 - 20 back", x.band(false), 6);
        x.setOffset(1, 50);
        check.is("26 - 20", x.band(true), 6);
        check.is("26 back", x.band(false), 26);
        x.setOffset(1, 36);
        check.is("apart", x.band(true), 0);
        x.setOffset(1, 35);
        check.is("one second", x.band(true), 1);
        x.setOffset(1, 10);
        x.setPhases(1, 2, 4, 0, 0);
        check.is("no phase for forward", x.band(true), 0);
        check.is("backward green for 27 at 1: 10 to 36, and 50 to 15 at 0", x.band(false), 6);
        for (int k = 0; k < 2; k++) {
            x.setPhases(k, 3, 0, 0, 0);
        }
        check.is("the whole cycle", x.band(true), 60);
        check.is("the whole cycle back", x.band(false), 60);
    }

    private static void bandsGoRoundTheCycle() {
        Greenwave x = Corridors.made(5, 90);
        int[] seconds = {60, 50, 3, 41};
        int at = 0;
        for (int k = 0; k < 4; k++) {
            x.setLink(k, seconds[k], 20);
            at += seconds[k];
            x.setOffset(k + 1, at % 90);
        }
        check.is("a wave forward: 90 - 19 = 71, 5 + 35 + 1", x.band(true), 41);
        int back = 0;
        for (int k = 3; k >= 0; k--) {
            back += seconds[k];
            x.setOffset(k, back % 90);
        }
        x.setOffset(4, 0);
        check.is("a wave backward", x.band(false), 41);
        for (int k = 0; k < 5; k++) {
            x.setOffset(k, (x.offset(k) + 70) % 90);
        }
        check.is("over the end of the cycle", x.band(false), 41);
    }

    private static void bandRefuses() {
        check.refusesState("no plan at the last one", () -> Corridors.planless(4), g -> g.band(true));
        check.refusesState("no plan at the last one, back", () -> Corridors.planless(4), g -> g.band(false));
    }

    // ---- promise 17

    private static void bestOfAllOffsets() {
        Greenwave x = new Greenwave();
        x.setOffset(1, 36);
        check.is("two: as with the offset 0", x.bestByAll(), 32);
        check.is("the offset stays", x.offset(1), 36);
        x.setLink(0, 30, 20);
        check.is("a link of half a cycle: both of 26", x.bestByAll(), 52);
        x.setOffset(0, 17);
        check.is("from another offset of 0", x.bestByAll(), 52);
        x.run(10);
        check.is("also when a second has run", x.bestByAll(), 52);

        Greenwave y = Corridors.made(3, 60);
        y.setOffset(1, 7);
        y.setOffset(2, 8);
        y.setLink(0, 30, 20);
        y.setLink(1, 30, 20);
        check.is("three: both of 26", y.bestByAll(), 52);
        y.setOffset(0, 29);
        check.is("59 alone is best for 1", y.bestByAll(), 52);
        y.setOffset(0, 30);
        check.is("0 alone is best for 1", y.bestByAll(), 52);
        check.is("the offset of 1 stays", y.offset(1), 7);
        check.is("the offset of 2 stays", y.offset(2), 8);
        y.setLink(1, 25, 20);
        check.is("a link of 25 is one of -5 backward: 26 and 26 - 10", y.bestByAll(), 42);
        y.setPhases(0, 12, 0, 0, 0);
        check.is("never green at 0", y.bestByAll(), 0);
    }

    private static void bestByAllRefuses() {
        check.refusesState("no plan", () -> Corridors.planless(3), g -> g.bestByAll());
        check.refusesState("four", () -> Corridors.made(4, 60), g -> g.bestByAll());
        check.refusesState("five", () -> Corridors.made(5, 60), g -> g.bestByAll());
        check.refusesState("four without a plan", () -> Corridors.planless(4), g -> g.bestByAll());
    }
}
