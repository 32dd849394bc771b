import java.util.function.Supplier;

/** Promises 18 to 25: seconds that run, buses that call, vehicles that come, wait and go. */
public final class RunningTest {
    private static final int NONE = Greenwave.NONE;
    private static final Check check = new Check("RunningTest");

    public static void main(String[] args) {
        vehiclesGoThrough();
        arrivalsAreSaved();
        readyTimeComesAndGoes();
        linksFillAndBlock();
        theOffsetShiftsAllThat();
        lastOfManyLetsThrough();
        runRefuses();
        runEndsAt7200();
        busLengthensItsGreen();
        busBringsForward();
        busGetsWhatIsThere();
        busGetsNothing();
        busLeavesTheRest();
        oneBusInACycle();
        busChangesTheQueue();
        callBusRefuses();
        phaseNowRefuses();
        queuesAndLinksAreTold();
        clockComesFromRunning();
        check.finish();
    }

    private static void isState(String what, Greenwave x, int... due) {
        int[] got = {x.come(), x.queue(0), x.held(0), x.queue(1), x.through()};
        String[] names = {"come", "queue(0)", "held(0)", "queue(1)", "through"};
        for (int i = 0; i < due.length; i++) {
            check.is(what + ", " + names[i], got[i], due[i]);
        }
    }

    // ---- promise 18, and 22 to 25

    /**
     * With a flow of 1800 a vehicle comes in the seconds 1, 3, 5 and so on. The junction 0 is
     * green for 46 seconds and lets them leave at once, the junction 1 for 26: in 11, 13, .. 25.
     */
    private static void vehiclesGoThrough() {
        Greenwave x = new Greenwave();
        x.setFlow(0, 0, 1800);
        check.is("the second 0", x.run(1), 0);
        isState("after 0", x, 0, 0, 0, 0, 0);
        check.is("the second 1", x.run(1), 0);
        isState("after 1", x, 1, 0, 1, 0, 0);
        check.is("2 to 10", x.run(9), 0);
        isState("after 10", x, 5, 0, 5, 0, 0);
        check.is("the second 11", x.run(1), 1);
        isState("after 11", x, 6, 0, 5, 0, 1);
        check.is("12 to 59", x.run(48), 7);
        isState("after 59", x, 30, 7, 15, 15, 8);
        check.is("60 to 85: ready in 61, 63, .. 85", x.run(26), 13);
        isState("after 85: 8 more came to the end of the link", x, 43, 7, 15, 10, 21);
    }

    private static void arrivalsAreSaved() {
        Greenwave x = new Greenwave();
        x.setFlow(0, 0, 1000);
        x.setFlow(0, 1, 1800);
        x.setFlow(1, 0, 1800);
        x.run(3);
        check.is("3000", x.come(), 0);
        x.run(1);
        check.is("4000", x.come(), 1);
        x.run(3);
        check.is("7000", x.come(), 1);
        x.run(1);
        check.is("8000", x.come(), 2);
        x.run(3);
        check.is("11000", x.come(), 3);
        x.run(600 - 11);
        check.is("600000", x.come(), 166);
        Greenwave y = new Greenwave();
        y.setFlow(0, 0, 1200);
        y.run(2);
        check.is("2400", y.come(), 0);
        y.run(1);
        check.is("3600 are enough", y.come(), 1);
        Greenwave z = new Greenwave();
        z.setFlow(0, 1, 1800);
        z.setFlow(1, 0, 1800);
        z.run(600);
        check.is("no others come", z.come(), 0);
    }

    /** Both junctions are green from 59 of the cycle before to 24. */
    private static void readyTimeComesAndGoes() {
        Greenwave x = new Greenwave();
        x.setFlow(0, 0, 1800);
        x.setFlow(0, 3, 1800);
        check.is("41 shared by equal weights", x.green(0, 0), 26);
        x.setOffset(0, 59);
        x.setOffset(1, 59);
        x.run(1);
        isState("the second 0: green, and ready for one more", x, 0, 0, 0, 0, 0);
        x.run(24);
        isState("left in 1, 3, .. 23, and through in 11, 13, .. 23", x, 12, 0, 5, 0, 7);
        x.run(1);
        isState("25 is red", x, 13, 1, 5, 1, 7);
        x.run(33);
        isState("red to 58", x, 29, 17, 5, 5, 7);
        x.run(1);
        isState("59 is green: ready is 1", x, 30, 18, 5, 5, 7);
        x.run(1);
        isState("60: ready is 2", x, 30, 17, 5, 4, 8);
        x.run(1);
        isState("61: ready is 1", x, 31, 18, 5, 4, 8);
        x.run(1);
        isState("62: ready is 2", x, 31, 17, 5, 3, 9);
    }

    private static void linksFillAndBlock() {
        Greenwave x = new Greenwave();
        x.setFlow(0, 0, 1800);
        x.setLink(0, 10, 3);
        x.run(11);
        isState("left in 1, 3 and 5; room for 3", x, 5, 2, 3, 0, 0);
        check.is("the second 11", x.run(1), 1);
        isState("11: one came and is through, 0 was blocked ahead of that", x, 6, 3, 2, 0, 1);
        check.is("the second 12", x.run(1), 0);
        isState("12: still ready", x, 6, 2, 3, 0, 1);
        check.is("the second 13", x.run(1), 1);
        isState("13: ready is 1", x, 7, 3, 2, 0, 2);
        check.is("the second 14", x.run(1), 0);
        isState("14: ready is 2", x, 7, 2, 3, 0, 2);
        check.is("15 to 25: 15 alone, 22 and 24 come from 12 and 14", x.run(11), 3);
        check.is("held", x.held(0), 3);
        check.is("26 to 59", x.run(34), 0);
        isState("all wait at 1", x, 30, 22, 3, 3, 5);

        Greenwave y = new Greenwave();
        y.setFlow(0, 0, 1800);
        y.setPhases(1, 12, 0, 0, 0);
        y.run(600);
        isState("20 at first, and never green at 1", y, 300, 280, 20, 20, 0);
        Greenwave z = new Greenwave();
        z.setFlow(0, 0, 1800);
        z.setLink(0, 60, 40);
        z.setPhases(1, 12, 0, 0, 0);
        z.run(600);
        isState("40", z, 300, 260, 40, 40, 0);
    }

    private static void theOffsetShiftsAllThat() {
        Greenwave x = new Greenwave();
        x.setFlow(0, 0, 1800);
        x.setOffset(0, 50);
        x.setOffset(1, 30);
        check.is("0 to 35: green at 0 is 46 from 50 on", x.run(36), 3);
        isState("after 35", x, 18, 0, 15, 10, 3);
        check.is("green at 1 in 30 to 55", x.run(24), 10);
    }

    private static void lastOfManyLetsThrough() {
        Greenwave x = Corridors.made(5, 60);
        x.setFlow(0, 0, 1800);
        for (int k = 0; k < 4; k++) {
            x.setPhases(k, 1, 0, 0, 0);
            x.setLink(k, k + 1, 40);
        }
        x.setPhases(4, 1, 0, 0, 0);
        check.is("from 1 over 2, 4, 7 to 11", x.run(11), 0);
        check.is("in 11", x.run(1), 1);
        check.is("one in two", x.run(100), 50);
        check.is("held(0): of 1 second", x.held(0), 1);
        check.is("held(1): of 2 seconds", x.held(1), 1);
        check.is("held(2): of 3 seconds: left in 110", x.held(2), 1);
        check.is("held(3): of 4 seconds", x.held(3), 2);
        check.is("all in all", x.held(0) + x.held(1) + x.held(2) + x.held(3) + x.through(), x.come() - x.queue(0));
    }

    private static void runRefuses() {
        check.refusesArgument("0", Greenwave::new, g -> g.run(0));
        check.refusesArgument("-1", Greenwave::new, g -> g.run(-1));
        check.refusesArgument("601", Greenwave::new, g -> g.run(601));
        check.refusesArgument("the least number", () -> Corridors.ran(30), g -> g.run(Integer.MIN_VALUE));
        check.refusesArgument("the greatest number", () -> Corridors.ran(30), g -> g.run(Integer.MAX_VALUE));
        check.refusesArgument("range ahead of state", () -> Corridors.planless(3), g -> g.run(0));
        check.refusesState("no plan", () -> Corridors.planless(3), g -> g.run(1));
        check.is("600", Corridors.ran(600).clock(), 600);
        check.is("1", Corridors.ran(1).clock(), 1);
    }

    private static Greenwave ranTo7190() {
        Greenwave x = new Greenwave();
        x.setFlow(0, 0, 1799);
        for (int i = 0; i < 11; i++) {
            x.run(600);
        }
        x.run(590);
        return x;
    }

    private static void runEndsAt7200() {
        check.refusesState("7201", RunningTest::ranTo7190, g -> g.run(11));
        check.refusesState("7790", RunningTest::ranTo7190, g -> g.run(600));
        check.refusesArgument("range ahead of the clock", RunningTest::ranTo7190, g -> g.run(601));
        Greenwave x = ranTo7190();
        x.run(10);
        check.is("7200", x.clock(), 7200);
        check.is("1799 * 7200 / 3600", x.come(), 3598);
        check.is("the phase then", x.phaseNow(0), 0);
        check.is("a bus may still call", x.callBus(0, 0), 0);
        check.refusesState("one more", () -> {
            Greenwave y = ranTo7190();
            y.run(10);
            return y;
        }, g -> g.run(1));
        x.begin(2, 60);
        check.is("begun anew", x.run(600), 0);
    }

    // ---- promises 19 and 21

    private static void busLengthensItsGreen() {
        Greenwave x = new Greenwave();
        check.same("by the plan", Corridors.phases(x, 0, 60), "0:26 -:3 1:28 -:3");
        check.is("5", x.callBus(0, 1), 5);
        check.same("5 more, and then as planned", Corridors.phases(x, 0, 120), "0:31 -:3 1:23 -:3 0:26 -:3 1:28 -:3");
        check.is("the plan stays", x.green(0, 0), 26);
        x.run(25);
        check.is("in its last second", x.callBus(0, 0), 5);
        check.same("5 more behind it", Corridors.phases(x, 0, 35), "0:6 -:3 1:23 -:3");
    }

    private static void busBringsForward() {
        Greenwave x = Corridors.ran(10);
        check.is("5", x.callBus(0, 2), 5);
        check.same("5 less", Corridors.phases(x, 0, 110), "0:11 -:3 1:33 -:3 0:26 -:3 1:28 -:3");
        x.run(20);
        check.is("in 20: 5 behind", x.callBus(0, 3), 5);
        check.is("that was its last one", x.phaseNow(0), 0);
        check.same("1 alone", Corridors.phases(x, 0, 40), "0:1 -:3 1:33 -:3");
        x.run(21);
        check.is("in 21: 4 behind", x.callBus(0, 3), 4);
        check.same("1 alone, again", Corridors.phases(x, 0, 39), "0:1 -:3 1:32 -:3");
        x.run(25);
        check.is("in 25: nothing behind", x.callBus(0, 2), 0);
        check.same("as planned", Corridors.phases(x, 0, 35), "0:1 -:3 1:28 -:3");
        check.is("the other one has its own", x.phaseNow(1), 0);
    }

    /** A cycle of 33 leaves 14: greens of 12 and 15; weights make them 5 and 22, or 19 and 8. */
    private static void busGetsWhatIsThere() {
        Supplier<Greenwave> walkers = () -> {
            Greenwave x = Corridors.made(2, 33);
            x.setFlow(0, 3, 1000);
            return x;
        };
        Greenwave x = walkers.get();
        check.is("green 0 is the least", x.green(0, 0), 5);
        check.is("cannot be less", x.callBus(0, 2), 0);
        check.same("as planned", Corridors.phases(x, 0, 33), "0:5 -:3 1:22 -:3");
        check.is("but the other can", x.callBus(0, 0), 5);
        check.same("5 more", Corridors.phases(x, 0, 33), "0:10 -:3 1:17 -:3");
        Greenwave y = Corridors.made(2, 33);
        y.setFlow(0, 0, 13);
        y.setFlow(0, 3, 1);
        check.is("8 + 1", y.green(0, 1), 9);
        check.is("1 above the least one", y.callBus(0, 0), 1);
        check.same("1 more", Corridors.phases(y, 0, 33), "0:19 -:3 1:8 -:3");
        Greenwave z = Corridors.made(2, 33);
        z.setFlow(0, 0, 3);
        z.setFlow(0, 3, 11);
        check.is("5 + 3", z.green(0, 0), 8);
        check.is("3 above the least one", z.callBus(0, 3), 3);
        check.same("3 less", Corridors.phases(z, 0, 33), "0:5 -:3 1:22 -:3");
    }

    private static void busGetsNothing() {
        Greenwave x = Corridors.ran(26);
        check.is("in a clearing", x.callBus(0, 0), 0);
        check.is("the other one, in a clearing, for a later phase", x.callBus(1, 2), 0);
        x.run(3);
        check.refusesState("that was a call, too", () -> {
            Greenwave y = Corridors.ran(28);
            y.callBus(0, 0);
            y.run(1);
            return y;
        }, g -> g.callBus(0, 2));
        Greenwave last = Corridors.ran(29);
        check.is("in the last phase, for it", last.callBus(0, 2), 0);
        Greenwave behind = Corridors.ran(29);
        check.is("in a later phase than its own", behind.callBus(0, 0), 0);
        check.same("as planned", Corridors.phases(behind, 0, 31), "1:28 -:3");
        Greenwave single = new Greenwave();
        single.setPhases(0, 3, 0, 0, 0);
        check.is("a single phase", single.callBus(0, 0), 0);
        check.same("a single green", Corridors.phases(single, 0, 70), "0:70");
        Greenwave twice = new Greenwave();
        twice.setPhases(0, 4, 1, 12, 3);
        twice.run(30);
        check.is("greens of 12, 11, 14, 11 with clearings of 3: in 30", twice.phaseNow(0), 2);
        check.is("the phase 3 has it, but 1 is the lowest", twice.callBus(0, 0), 0);
    }

    /** Four phases of 9, 8, 11 and 8 seconds, each cleared for 3, in a cycle of 48. */
    private static Greenwave fourPhases() {
        Greenwave x = Corridors.made(2, 48);
        x.setPhases(0, 1, 4, 2, 12);
        check.is("green 0", x.green(0, 0), 9);
        check.is("green 1", x.green(0, 1), 8);
        check.is("green 2", x.green(0, 2), 8);
        check.is("green 3", x.green(0, 3), 11);
        return x;
    }

    private static void busLeavesTheRest() {
        Greenwave x = fourPhases();
        check.is("for the phase 3, 4 above the least", x.callBus(0, 3), 4);
        check.same("what lies between comes earlier", Corridors.phases(x, 0, 96),
                "0:5 -:3 1:8 -:3 2:8 -:3 3:15 -:3 0:9 -:3 1:8 -:3 2:8 -:3 3:11 -:3");
        Greenwave y = fourPhases();
        y.run(12);
        check.is("the phase behind gives 3", y.callBus(0, 2), 3);
        check.same("the phase 1 and not 3 is the lowest", Corridors.phases(y, 0, 36), "1:11 -:3 2:5 -:3 3:11 -:3");
        Greenwave z = fourPhases();
        z.run(34);
        check.is("in the phase 3, the lowest one is 1", z.callBus(0, 2), 0);
        Greenwave w = fourPhases();
        w.run(34);
        check.is("in the phase 3, the last one", w.callBus(0, 3), 0);
        Greenwave v = fourPhases();
        v.run(24);
        check.is("in the phase 2, in its second second", v.callBus(0, 3), 3);
        check.same("the phase 3 is longer", Corridors.phases(v, 0, 24), "2:4 -:3 3:14 -:3");
    }

    private static void oneBusInACycle() {
        Supplier<Greenwave> make = () -> {
            Greenwave x = new Greenwave();
            x.setOffset(0, 20);
            x.callBus(0, 3);
            return x;
        };
        check.refusesState("at once", make, g -> g.callBus(0, 0));
        check.refusesState("in the last second of the cycle ahead of the offset", () -> {
            Greenwave x = make.get();
            x.run(19);
            return x;
        }, g -> g.callBus(0, 0));
        Greenwave x = make.get();
        check.is("the other one has its own", x.callBus(1, 0), 5);
        x.run(20);
        check.is("in the first second of the next one", x.callBus(0, 0), 5);
        check.refusesState("but once", () -> {
            Greenwave y = make.get();
            y.run(20);
            y.callBus(0, 0);
            y.run(59);
            return y;
        }, g -> g.callBus(0, 3));
        x.run(59);
        x.run(1);
        check.is("and in the next one", x.callBus(0, 0), 5);
        x.run(59);
        x.run(60);
        check.is("the one behind is free, too", x.callBus(0, 3), 0);
    }

    /** Without the bus the junction 1 lets the vehicles of 11, 13, .. 25 through, with it 30. */
    private static void busChangesTheQueue() {
        Greenwave x = new Greenwave();
        x.setFlow(0, 0, 1800);
        check.is("5 more at 1", x.callBus(1, 0), 5);
        check.is("11, 13, .. 29", x.run(60), 10);
        check.is("as planned then: 61, 63, .. 85", x.run(60), 13);
        Greenwave y = new Greenwave();
        y.setFlow(0, 0, 1800);
        y.run(10);
        check.is("5 less at 1", y.callBus(1, 2), 5);
        check.is("11, 13, .. 19: red from 21", y.run(50), 5);
        Greenwave z = new Greenwave();
        z.setFlow(0, 0, 1800);
        z.run(20);
        check.is("5 less of 46 at 0", z.callBus(0, 2), 5);
        z.run(40);
        isState("left in 1, 3, .. 39", z, 30, 10, 12, 12, 8);
    }

    private static void callBusRefuses() {
        check.refusesIndex("junction -1", Greenwave::new, g -> g.callBus(-1, 0));
        check.refusesIndex("junction 2", Greenwave::new, g -> g.callBus(2, 0));
        check.refusesIndex("movement -1", Greenwave::new, g -> g.callBus(0, -1));
        check.refusesIndex("movement 4", Greenwave::new, g -> g.callBus(0, 4));
        check.refusesIndex("index ahead of state", () -> Corridors.planless(3), g -> g.callBus(0, 4));
        check.refusesState("no plan at another one", () -> Corridors.planless(3), g -> g.callBus(0, 0));
        check.refusesState("no plan", () -> Corridors.planless(3), g -> g.callBus(2, 0));
        check.refusesState("no phase has it", () -> {
            Greenwave x = new Greenwave();
            x.setPhases(0, 1, 4, 0, 0);
            return x;
        }, g -> g.callBus(0, 3));
        check.refusesState("no phase has it, 1", () -> {
            Greenwave x = new Greenwave();
            x.setPhases(0, 1, 4, 0, 0);
            return x;
        }, g -> g.callBus(0, 1));
        check.refusesState("a bus has called", () -> {
            Greenwave x = new Greenwave();
            x.callBus(0, 0);
            return x;
        }, g -> g.callBus(0, 1));
    }

    private static void phaseNowRefuses() {
        check.refusesIndex("junction -1", () -> Corridors.planless(3), g -> g.phaseNow(-1));
        check.refusesIndex("junction 3", () -> Corridors.planless(3), g -> g.phaseNow(3));
        check.refusesState("no plan", () -> Corridors.planless(3), g -> g.phaseNow(2));
        check.is("the other one has", Corridors.planless(3).phaseNow(1), 0);
        Greenwave x = new Greenwave();
        x.setOffset(0, 1);
        x.setOffset(1, 31);
        check.is("ahead of the offset: the last clearing", x.phaseNow(0), NONE);
        check.is("29 of the cycle before", x.phaseNow(1), 1);
        x.setOffset(1, 32);
        check.is("28 of the cycle before", x.phaseNow(1), NONE);
    }

    // ---- promises 22, 23 and 20

    private static void queuesAndLinksAreTold() {
        Supplier<Greenwave> make = () -> {
            Greenwave x = Corridors.made(3, 60);
            x.setFlow(0, 0, 1800);
            x.run(100);
            return x;
        };
        check.refusesIndex("queue -1", make, g -> g.queue(-1));
        check.refusesIndex("queue 3", make, g -> g.queue(3));
        check.refusesIndex("held -1", make, g -> g.held(-1));
        check.refusesIndex("held of the last one", make, g -> g.held(2));
        check.refusesIndex("held 3", make, g -> g.held(3));
        Greenwave x = make.get();
        check.is("none is lost", x.queue(0) + x.held(0) + x.held(1) + x.through(), x.come());
        check.yes("a link holds the queue at its end", x.held(0) >= x.queue(1));
        check.is("told without a plan", Corridors.planless(3).queue(2) + Corridors.planless(3).held(1), 0);
    }

    private static void clockComesFromRunning() {
        Greenwave x = new Greenwave();
        check.is("at first", x.clock(), 0);
        x.callBus(0, 0);
        check.is("a bus takes no time", x.clock(), 0);
        x.run(7);
        check.is("7", x.clock(), 7);
        x.run(600);
        check.is("607", x.clock(), 607);
        x.begin(2, 60);
        check.is("begun anew", x.clock(), 0);
        check.is("come", x.come(), 0);
        check.is("through", x.through(), 0);
    }
}
