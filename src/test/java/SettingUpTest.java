import java.util.function.Supplier;

/** Promises 1 to 8: a new object, and the calls that set a corridor up. */
public final class SettingUpTest {
    private static final int NONE = Greenwave.NONE;
    private static final Check check = new Check("SettingUpTest");

    public static void main(String[] args) {
        newObject();
        beginSetsTheCorridor();
        beginResetsAll();
        beginRefuses();
        conflictsAtFirst();
        setConflictChanges();
        setConflictRefuses();
        setPhasesChanges();
        setPhasesRefuses();
        setFlowChanges();
        setFlowRefuses();
        setLinkChanges();
        setLinkRefuses();
        setOffsetChanges();
        setOffsetRefuses();
        improveTakesTheLowest();
        improveGoesOn();
        improveEndsWithTheTenthRound();
        improveRefuses();
        check.finish();
    }

    // ---- promise 1

    private static void newObject() {
        Greenwave x = new Greenwave();
        check.is("junctions", x.junctions(), 2);
        check.is("the cycle is 60: green 0", x.green(0, 0), 26);
        check.is("the cycle is 60: green 1", x.green(0, 1), 28);
        check.is("offset", x.offset(0), 0);
        check.is("offset within 60", x.setOffset(0, 59), 0);
        check.is("offset within 60, again", x.setOffset(1, 59), 0);
        check.is("clock", x.clock(), 0);
        check.is("come", x.come(), 0);
        check.is("through", x.through(), 0);
        check.is("queue", x.queue(0) + x.queue(1), 0);
        check.is("held", x.held(0), 0);
        check.refusesArgument("offset 60", Greenwave::new, g -> g.setOffset(0, 60));
        check.refusesIndex("junction 2", Greenwave::new, g -> g.offset(2));
    }

    // ---- promise 2

    private static void beginSetsTheCorridor() {
        for (int junctions = 2; junctions <= 5; junctions++) {
            Greenwave x = Corridors.made(junctions, 30);
            check.is("junctions", x.junctions(), junctions);
            for (int k = 0; k < junctions; k++) {
                check.is("greens and clearings of 30",
                        x.green(k, 0) + x.clearing(k, 0) + x.green(k, 1) + x.clearing(k, 1), 30);
                check.is("offset within 30", x.setOffset(k, 29), 0);
            }
        }
        check.refusesArgument("offset 30 of 30", () -> Corridors.made(5, 30), g -> g.setOffset(4, 30));
        Greenwave y = Corridors.made(5, 90);
        check.is("offset within 90", y.setOffset(4, 89), 0);
        check.is("green of 90", y.green(4, 0) + y.green(4, 1), 84);
        check.refusesArgument("offset 90 of 90", () -> Corridors.made(5, 90), g -> g.setOffset(4, 90));
        check.refusesIndex("junction 3 of 3", () -> Corridors.made(3, 40), g -> g.queue(3));
    }

    private static void beginResetsAll() {
        Greenwave x = Corridors.made(4, 50);
        for (int k = 0; k < 4; k++) {
            x.setConflict(k, 0, 1, NONE);
            x.setConflict(k, 0, 2, NONE);
            x.setConflict(k, 1, 3, 7);
            x.setPhases(k, 5, 2, 8, 1);
            x.setFlow(k, 0, 1800);
            x.setFlow(k, 2, 10);
            x.setOffset(k, 30 + k);
        }
        x.setLink(0, 1, 1);
        x.setLink(1, 2, 2);
        x.setLink(2, 3, 3);
        x.run(200);
        x.callBus(2, 1);
        x.begin(4, 50);
        check.same("all as in a new one", everything(x), everything(Corridors.made(4, 50)));

        Greenwave y = Corridors.called();
        y.begin(2, 60);
        check.is("a bus may call again", y.callBus(0, 0), 5);
        y.begin(2, 60);
        check.is("set up again", y.setFlow(0, 0, 3), 0);
        y.begin(5, 90);
        check.is("five junctions", y.junctions(), 5);
        check.is("the flow is 0 again", y.setFlow(0, 0, 3), 0);

        Greenwave z = new Greenwave();
        z.setFlow(0, 0, 1800);
        z.run(10);
        check.is("on their way", z.held(0), 5);
        z.begin(2, 60);
        check.is("none any more", z.held(0), 0);
        z.run(60);
        check.is("none comes to the end", z.queue(1) + z.through(), 0);
        z.begin(2, 60);
        z.setFlow(0, 0, 59);
        z.run(61);
        check.is("arrivals of 3599", z.come(), 0);
        z.begin(2, 60);
        z.setFlow(0, 0, 59);
        z.run(61);
        check.is("arrivals of 3599 again", z.come(), 0);
        z.run(1);
        check.is("and of 3658", z.come(), 1);
    }

    private static String everything(Greenwave x) {
        StringBuilder text = new StringBuilder();
        for (int k = 0; k < x.junctions(); k++) {
            text.append(x.offset(k)).append(' ').append(x.queue(k)).append(' ').append(x.phaseNow(k)).append(' ');
            for (int m = 0; m < 4; m++) {
                text.append(x.setFlow(k, m, 900 + m)).append(' ');
            }
            text.append(x.setConflict(k, 0, 1, NONE)).append(x.setConflict(k, 0, 2, 3));
            text.append(x.setConflict(k, 0, 3, 3)).append(x.setConflict(k, 1, 2, 3));
            text.append(x.setConflict(k, 1, 3, 3)).append(x.setConflict(k, 2, 3, NONE)).append(' ');
        }
        text.append(x.band(true)).append(' ').append(x.band(false)).append(' ');
        text.append(x.run(35)).append(' ');
        text.append(x.callBus(2, 1)).append(' ');
        text.append(x.run(200)).append(' ');
        for (int k = 0; k < x.junctions(); k++) {
            text.append(x.queue(k)).append(' ').append(x.phaseNow(k)).append(' ');
        }
        text.append(x.clock()).append(' ').append(x.come()).append(' ').append(x.through());
        return text.toString();
    }

    private static void beginRefuses() {
        Supplier<Greenwave> make = () -> {
            Greenwave x = Corridors.made(3, 40);
            x.setFlow(0, 0, 1800);
            x.run(33);
            return x;
        };
        check.refusesArgument("1 junction", make, g -> g.begin(1, 60));
        check.refusesArgument("6 junctions", make, g -> g.begin(6, 60));
        check.refusesArgument("cycle 29", make, g -> g.begin(2, 29));
        check.refusesArgument("cycle 91", make, g -> g.begin(2, 91));
        check.refusesArgument("extremes", make, g -> g.begin(Integer.MIN_VALUE, Integer.MAX_VALUE));
        check.refusesArgument("negative", make, g -> g.begin(3, -60));
    }

    // ---- promise 3

    private static void conflictsAtFirst() {
        int[][] due = {{NONE, NONE, 3, 3}, {NONE, NONE, 3, 3}, {3, 3, NONE, NONE}, {3, 3, NONE, NONE}};
        for (int k = 0; k < 2; k++) {
            for (int m = 0; m < 4; m++) {
                for (int o = 0; o < 4; o++) {
                    if (m != o) {
                        Greenwave x = new Greenwave();
                        check.is("the clearance at first", x.setConflict(k, m, o, NONE), due[m][o]);
                    }
                }
            }
        }
    }

    private static void setConflictChanges() {
        Greenwave x = new Greenwave();
        check.is("was 3", x.setConflict(0, 0, 2, 9), 3);
        check.is("was 9, the other way round", x.setConflict(0, 2, 0, 0), 9);
        check.is("was 0", x.setConflict(0, 0, 2, NONE), 0);
        check.is("was none", x.setConflict(0, 2, 0, 5), NONE);
        check.is("the other junction has its own", x.setConflict(1, 0, 2, 4), 3);
        check.is("clearing 0", x.clearing(0, 0), 5);
        check.is("clearing 1", x.clearing(0, 1), 5);
        check.is("none within a phase", x.setConflict(0, 0, 1, NONE), NONE);
        x.setPhases(0, 1, 2, 4, 8);
        check.is("phases apart may conflict", x.setConflict(0, 0, 1, 0), NONE);
        check.is("a clearance of 0 is a conflict", x.setConflict(0, 1, 0, 2), 0);
        check.is("its clearing", x.clearing(0, 0), 2);
        check.is("the plan follows: 60 - 23 - 2 - 3 - 0 - 3 = 32, 8 each", x.green(0, 0), 13);
    }

    private static void setConflictRefuses() {
        Supplier<Greenwave> make = Greenwave::new;
        check.refusesIndex("junction -1", make, g -> g.setConflict(-1, 0, 2, 3));
        check.refusesIndex("junction 2", make, g -> g.setConflict(2, 0, 2, 3));
        check.refusesIndex("movement -1", make, g -> g.setConflict(0, -1, 2, 3));
        check.refusesIndex("movement 4", make, g -> g.setConflict(0, 4, 2, 3));
        check.refusesIndex("other -1", make, g -> g.setConflict(0, 0, -1, 3));
        check.refusesIndex("other 4", make, g -> g.setConflict(0, 0, 4, 3));
        check.refusesIndex("index ahead of same and range", make, g -> g.setConflict(0, 4, 4, 99));
        check.refusesIndex("index ahead of state", () -> Corridors.ran(1), g -> g.setConflict(0, 0, 4, 3));
        check.refusesArgument("same", make, g -> g.setConflict(0, 2, 2, 3));
        check.refusesArgument("same, none", make, g -> g.setConflict(0, 2, 2, NONE));
        check.refusesArgument("clearance -2", make, g -> g.setConflict(0, 0, 2, -2));
        check.refusesArgument("clearance 10", make, g -> g.setConflict(0, 0, 2, 10));
        check.refusesArgument("range ahead of the phase", make, g -> g.setConflict(0, 0, 1, 10));
        check.refusesArgument("range ahead of state", () -> Corridors.ran(1), g -> g.setConflict(0, 0, 2, 10));
        check.refusesState("in one phase", make, g -> g.setConflict(0, 0, 1, 0));
        check.refusesState("in one phase, other way", make, g -> g.setConflict(1, 3, 2, 9));
        check.refusesState("in the last phase", () -> {
            Greenwave x = new Greenwave();
            x.setPhases(1, 1, 2, 4, 12);
            return x;
        }, g -> g.setConflict(1, 2, 3, 1));
        check.refusesState("a second has run", () -> Corridors.ran(1), g -> g.setConflict(0, 0, 2, 3));
        check.refusesState("none, a second has run", () -> Corridors.ran(1), g -> g.setConflict(0, 0, 2, NONE));
        check.refusesState("a bus has called", Corridors::called, g -> g.setConflict(1, 0, 2, 3));
    }

    // ---- promise 4

    private static void setPhasesChanges() {
        Greenwave x = new Greenwave();
        check.is("one", x.setPhases(0, 3, 0, 0, 0), 1);
        check.is("its green is the cycle", x.green(0, 0), 60);
        check.is("no clearing", x.clearing(0, 0), 0);
        check.is("two", x.setPhases(0, 12, 3, 0, 0), 2);
        check.is("8 + 21", x.green(0, 0), 29);
        check.is("5 + 20", x.green(0, 1), 25);
        check.is("three", x.setPhases(0, 1, 2, 4, 0), 3);
        check.is("no clearing between 0 and 1", x.clearing(0, 0), 0);
        check.is("clearing between 1 and 2", x.clearing(0, 1), 3);
        check.is("clearing between 2 and 0", x.clearing(0, 2), 3);
        check.is("four", x.setPhases(0, 1, 4, 1, 8), 4);
        check.is("all four again", x.setPhases(0, 8, 4, 2, 1), 4);
        check.is("the other has its own", x.green(1, 0), 26);
        check.is("the same set twice", x.setPhases(1, 3, 3, 0, 0), 2);
        check.is("two again", x.setPhases(0, 3, 12, 0, 0), 2);
        check.refusesIndex("no third phase is left", () -> {
            Greenwave y = new Greenwave();
            y.setPhases(0, 1, 4, 1, 8);
            y.setPhases(0, 3, 12, 0, 0);
            return y;
        }, g -> g.green(0, 2));
        Greenwave z = new Greenwave();
        for (int m = 0; m < 2; m++) {
            z.setConflict(0, m, 2, NONE);
            z.setConflict(0, m, 3, NONE);
        }
        check.is("15 without conflicts", z.setPhases(0, 15, 15, 15, 15), 4);
        check.is("8 + 7", z.green(0, 3), 15);
    }

    private static void setPhasesRefuses() {
        Supplier<Greenwave> make = Greenwave::new;
        check.refusesIndex("junction -1", make, g -> g.setPhases(-1, 3, 12, 0, 0));
        check.refusesIndex("junction 2", make, g -> g.setPhases(2, 3, 12, 0, 0));
        check.refusesIndex("index ahead of range", make, g -> g.setPhases(2, 0, 16, 0, 0));
        check.refusesIndex("index ahead of state", () -> Corridors.ran(1), g -> g.setPhases(2, 3, 12, 0, 0));
        check.refusesArgument("first 0", make, g -> g.setPhases(0, 0, 12, 0, 0));
        check.refusesArgument("first -1", make, g -> g.setPhases(0, -1, 12, 0, 0));
        check.refusesArgument("first 16", make, g -> g.setPhases(0, 16, 12, 0, 0));
        check.refusesArgument("second -1", make, g -> g.setPhases(0, 3, -1, 0, 0));
        check.refusesArgument("second 16", make, g -> g.setPhases(0, 3, 16, 0, 0));
        check.refusesArgument("third -1", make, g -> g.setPhases(0, 3, 12, -1, 0));
        check.refusesArgument("third 16", make, g -> g.setPhases(0, 3, 12, 16, 0));
        check.refusesArgument("fourth -1", make, g -> g.setPhases(0, 3, 12, 3, -1));
        check.refusesArgument("fourth 16", make, g -> g.setPhases(0, 3, 12, 3, 16));
        check.refusesArgument("third without second", make, g -> g.setPhases(0, 3, 0, 12, 0));
        check.refusesArgument("third of 1 without second", make, g -> g.setPhases(0, 3, 0, 1, 0));
        check.refusesArgument("fourth of 1 without third", make, g -> g.setPhases(0, 3, 12, 0, 1));
        check.refusesArgument("fourth without third", make, g -> g.setPhases(0, 3, 12, 0, 3));
        check.refusesArgument("fourth without second", make, g -> g.setPhases(0, 3, 0, 0, 12));
        check.refusesArgument("range ahead of conflict", make, g -> g.setPhases(0, 15, 16, 0, 0));
        check.refusesArgument("range ahead of state", () -> Corridors.ran(1), g -> g.setPhases(0, 0, 0, 0, 0));
        check.refusesState("conflict in the phase 0", make, g -> g.setPhases(0, 5, 10, 0, 0));
        check.refusesState("conflict in the phase 1", make, g -> g.setPhases(0, 3, 9, 0, 0));
        check.refusesState("conflict in the phase 2", make, g -> g.setPhases(0, 3, 12, 6, 0));
        check.refusesState("conflict in the phase 3", make, g -> g.setPhases(0, 3, 12, 3, 15));
        check.refusesState("a clearance of 0 in a phase", () -> {
            Greenwave x = new Greenwave();
            x.setPhases(0, 1, 2, 4, 8);
            x.setConflict(0, 0, 1, 0);
            return x;
        }, g -> g.setPhases(0, 3, 12, 0, 0));
        check.refusesState("a second has run", () -> Corridors.ran(1), g -> g.setPhases(0, 3, 12, 0, 0));
        check.refusesState("a bus has called", Corridors::called, g -> g.setPhases(1, 3, 12, 0, 0));
    }

    // ---- promise 5

    private static void setFlowChanges() {
        Greenwave x = new Greenwave();
        for (int m = 0; m < 4; m++) {
            check.is("0 at first", x.setFlow(0, m, 1800), 0);
            check.is("1800 then", x.setFlow(0, m, 0), 1800);
            check.is("0 then", x.setFlow(0, m, 100 + m), 0);
            check.is("each has its own", x.setFlow(0, m, 100 + m), 100 + m);
            check.is("each junction has its own", x.setFlow(1, m, 0), 0);
        }
        check.is("the plan follows: 5 + floor(41 * 101 / 204) + 1", x.green(0, 0), 26);
        check.is("8 + floor(41 * 103 / 204)", x.green(0, 1), 28);
        x.setFlow(0, 1, 309);
        check.is("5 + floor(41 * 309 / 412) + 1", x.green(0, 0), 36);
    }

    private static void setFlowRefuses() {
        Supplier<Greenwave> make = Greenwave::new;
        check.refusesIndex("junction -1", make, g -> g.setFlow(-1, 0, 3));
        check.refusesIndex("junction 2", make, g -> g.setFlow(2, 0, 3));
        check.refusesIndex("movement -1", make, g -> g.setFlow(0, -1, 3));
        check.refusesIndex("movement 4", make, g -> g.setFlow(0, 4, 3));
        check.refusesIndex("index ahead of range", make, g -> g.setFlow(0, 4, -3));
        check.refusesIndex("index ahead of state", () -> Corridors.ran(1), g -> g.setFlow(0, 4, 3));
        check.refusesArgument("flow -1", make, g -> g.setFlow(0, 0, -1));
        check.refusesArgument("flow 1801", make, g -> g.setFlow(0, 0, 1801));
        check.refusesArgument("range ahead of state", Corridors::called, g -> g.setFlow(0, 0, 1801));
        check.refusesState("a second has run", () -> Corridors.ran(1), g -> g.setFlow(0, 0, 3));
        check.refusesState("a bus has called", Corridors::called, g -> g.setFlow(0, 0, 3));
    }

    // ---- promise 6

    private static void setLinkChanges() {
        Greenwave x = Corridors.made(3, 60);
        check.is("green for 26, links of 10 and 10", x.band(true), 6);
        x.setLink(0, 1, 1);
        check.is("1 and 10", x.band(true), 15);
        x.setLink(1, 4, 40);
        check.is("1 and 4", x.band(true), 21);
        check.is("the same back", x.band(false), 21);
        x.setLink(0, 60, 40);
        check.is("60 and 4: a whole cycle does not matter", x.band(true), 22);

        Greenwave y = new Greenwave();
        y.setFlow(0, 0, 1800);
        y.setLink(0, 60, 1);
        y.run(60);
        check.is("room for one", y.held(0), 1);
        check.is("on its way for 60 seconds: sent in 1", y.queue(1), 0);
        y.run(1);
        check.is("not in 60", y.queue(1) + y.through(), 0);
        y.run(1);
        check.is("but in 61", y.queue(1) + y.through(), 1);
    }

    private static void setLinkRefuses() {
        Supplier<Greenwave> make = () -> Corridors.made(3, 60);
        Supplier<Greenwave> ran = () -> {
            Greenwave x = Corridors.made(3, 60);
            x.run(1);
            return x;
        };
        check.refusesIndex("junction -1", make, g -> g.setLink(-1, 10, 20));
        check.refusesIndex("the last junction", make, g -> g.setLink(2, 10, 20));
        check.refusesIndex("junction 3", make, g -> g.setLink(3, 10, 20));
        check.refusesIndex("index ahead of range", make, g -> g.setLink(2, 0, 0));
        check.refusesIndex("index ahead of state", ran, g -> g.setLink(2, 10, 20));
        check.refusesArgument("0 seconds", make, g -> g.setLink(0, 0, 20));
        check.refusesArgument("61 seconds", make, g -> g.setLink(0, 61, 20));
        check.refusesArgument("room 0", make, g -> g.setLink(1, 10, 0));
        check.refusesArgument("room 41", make, g -> g.setLink(1, 10, 41));
        check.refusesArgument("range ahead of state", ran, g -> g.setLink(1, 10, 41));
        check.refusesState("a second has run", ran, g -> g.setLink(0, 10, 20));
        check.refusesState("a bus has called", Corridors::called, g -> g.setLink(0, 10, 20));
    }

    // ---- promise 7

    private static void setOffsetChanges() {
        Greenwave x = new Greenwave();
        check.is("0 at first", x.setOffset(0, 59), 0);
        check.is("59 then", x.setOffset(0, 17), 59);
        check.is("17 then", x.offset(0), 17);
        check.is("each has its own", x.offset(1), 0);
        check.no("not green before", x.isGreen(0, 0, 16));
        check.yes("green from there", x.isGreen(0, 0, 17));
        check.yes("for 26 seconds", x.isGreen(0, 0, 42));
        check.no("and no longer", x.isGreen(0, 0, 43));
        check.is("back to 0", x.setOffset(0, 0), 17);
    }

    private static void setOffsetRefuses() {
        Supplier<Greenwave> make = Greenwave::new;
        check.refusesIndex("junction -1", make, g -> g.setOffset(-1, 0));
        check.refusesIndex("junction 2", make, g -> g.setOffset(2, 0));
        check.refusesIndex("index ahead of range", make, g -> g.setOffset(2, -1));
        check.refusesIndex("index ahead of state", () -> Corridors.ran(1), g -> g.setOffset(2, 0));
        check.refusesArgument("offset -1", make, g -> g.setOffset(0, -1));
        check.refusesArgument("offset 60", make, g -> g.setOffset(1, 60));
        check.refusesArgument("range ahead of state", () -> Corridors.ran(1), g -> g.setOffset(1, 60));
        check.refusesState("a second has run", () -> Corridors.ran(1), g -> g.setOffset(0, 0));
        check.refusesState("a bus has called", Corridors::called, g -> g.setOffset(0, 0));
    }

    // ---- promise 8

    /** With greens of 26 and a link of 10, offsets from -10 to 10 of junction 1 give 32 in all. */
    private static void improveTakesTheLowest() {
        Greenwave x = new Greenwave();
        x.setOffset(1, 40);
        check.is("both bands", x.improve(), 32);
        check.is("the lowest", x.offset(1), 0);
        x.setOffset(1, 5);
        check.is("as good", x.improve(), 32);
        check.is("but not the lowest", x.offset(1), 0);
        x.setOffset(0, 20);
        check.is("from 10 to 30", x.improve(), 32);
        check.is("the lowest is 10", x.offset(1), 10);
        check.is("the junction 0 stays", x.offset(0), 20);
        x.setOffset(0, 53);
        check.is("from 43 over 59 to 3", x.improve(), 32);
        check.is("the lowest is 0", x.offset(1), 0);
        for (int cycle = 60; cycle <= 90; cycle += 2) {
            Greenwave y = Corridors.made(2, cycle);
            y.setLink(0, cycle / 2, 20);
            check.is("a link of half a cycle: all green of both", y.improve(), 2 * y.green(0, 0));
            check.is("half a cycle", y.offset(1), cycle / 2);
            check.is("none is better", y.bestByAll(), 2 * y.green(0, 0));
        }
        x.setPhases(0, 12, 12, 0, 0);
        x.setOffset(1, 33);
        check.is("no band at all", x.improve(), 0);
        check.is("still the lowest", x.offset(1), 0);
    }

    /** Junction 1 is green for both ways all the time, so it goes to 0, and junction 2 decides. */
    private static void improveGoesOn() {
        Greenwave x = Corridors.made(3, 60);
        x.setPhases(1, 3, 0, 0, 0);
        x.setLink(0, 5, 20);
        x.setLink(1, 6, 20);
        x.setOffset(0, 30);
        x.setOffset(1, 44);
        x.setOffset(2, 2);
        check.is("26 - 11 forward and backward", x.improve(), 30);
        check.is("always green", x.offset(1), 0);
        check.is("30 - 11", x.offset(2), 19);
        check.is("the bands", x.band(true) + x.band(false), 30);
    }

    /** In each of the first eleven rounds an offset becomes less by 1. */
    private static void improveEndsWithTheTenthRound() {
        Greenwave x = Corridors.made(4, 44);
        int[][] flows = {{4, 1134, 0, 1495}, {1391, 0, 566, 0}, {830, 0, 96, 284}, {539, 0, 0, 666}};
        int[] links = {19, 29, 18};
        int[] offsets = {23, 10, 33, 12};
        x.setPhases(1, 1, 2, 12, 0);
        x.setPhases(3, 3, 12, 3, 12);
        for (int k = 0; k < 4; k++) {
            for (int m = 0; m < 4; m++) {
                x.setFlow(k, m, flows[k][m]);
            }
            if (k < 3) {
                x.setLink(k, links[k], 20);
            }
            x.setOffset(k, offsets[k]);
        }
        check.is("both bands", x.improve(), 12);
        int[] due = {23, 30, 11, 1};
        for (int k = 0; k < 4; k++) {
            check.is("the offset with the tenth", x.offset(k), due[k]);
        }
        check.is("improved again", x.improve(), 12);
        check.yes("it would have gone on", x.offset(1) < 30 && x.offset(2) < 11);
    }

    private static void improveRefuses() {
        check.refusesState("no plan at the last one", () -> Corridors.planless(2), g -> g.improve());
        check.refusesState("no plan at the first one", () -> {
            Greenwave x = Corridors.made(2, 30);
            x.setConflict(0, 0, 2, 9);
            return x;
        }, g -> g.improve());
        check.refusesState("a second has run", () -> Corridors.ran(1), g -> g.improve());
        check.refusesState("a bus has called", Corridors::called, g -> g.improve());
    }
}
