import java.util.function.Supplier;

/**
 * The range of each argument of each call: taken at both of its ends and just inside them, refused
 * just outside them and far off; a refused call changes nothing.
 */
public final class ArgumentsTest {
    private static final int NONE = Greenwave.NONE;
    private static final Check check = new Check("ArgumentsTest");

    /** A call with the argument in question, the others being right. */
    private interface With {
        void value(Greenwave g, int value);
    }

    private interface Refusal {
        void of(int value);
    }

    public static void main(String[] args) {
        beginRanges();
        setConflictRanges();
        setPhasesRanges();
        setPhasesZeroes();
        setFlowRanges();
        setLinkRanges();
        setOffsetRanges();
        junctionRanges();
        linkRanges();
        phaseRanges();
        isGreenRanges();
        runRanges();
        callBusRanges();
        check.finish();
    }

    // ---- ranges

    private static void takes(String what, Supplier<Greenwave> make, int least, int most, With call) {
        int[] inside = {least, Math.min(least + 1, most), Math.max(most - 1, least), most};
        for (int value : inside) {
            check.takes(what + " " + value, make, g -> call.value(g, value));
        }
    }

    private static void refuses(int least, int most, Refusal refusal) {
        int[] outside = {least - 1, most + 1, least - 1000, most + 1000, Integer.MIN_VALUE, Integer.MAX_VALUE};
        for (int value : outside) {
            refusal.of(value);
        }
    }

    /** An argument that names something: others than these are no such thing. */
    private static void numbers(String what, Supplier<Greenwave> make, int least, int most, With call) {
        takes(what, make, least, most, call);
        refuses(least, most, v -> check.refusesIndex(what + " " + v, make, g -> call.value(g, v)));
    }

    /** An argument that is an amount: others than these are out of range. */
    private static void amounts(String what, Supplier<Greenwave> make, int least, int most, With call) {
        takes(what, make, least, most, call);
        refuses(least, most, v -> check.refusesArgument(what + " " + v, make, g -> call.value(g, v)));
    }

    /** The numbers of junctions, in corridors with 2 to 5 of them. */
    private static void junctions(String what, With call) {
        for (int junctions = 2; junctions <= 5; junctions++) {
            int n = junctions;
            numbers(what + " at one of " + n, () -> Corridors.made(n, 60), 0, n - 1, call);
        }
    }

    /** The numbers of junctions that are not the last one, in corridors with 2 to 5 of them. */
    private static void junctionsWithLinks(String what, With call) {
        for (int junctions = 2; junctions <= 5; junctions++) {
            int n = junctions;
            numbers(what + " at one of " + n, () -> Corridors.made(n, 60), 0, n - 2, call);
        }
    }

    // ---- setting up

    /** "junctions: 2 to 5", "cycle: 30 to 90 seconds". */
    private static void beginRanges() {
        Supplier<Greenwave> used = () -> {
            Greenwave x = Corridors.made(4, 77);
            x.setFlow(0, 0, 1700);
            x.run(50);
            return x;
        };
        amounts("begin, junctions", Greenwave::new, 2, 5, (g, v) -> g.begin(v, 60));
        amounts("begin, cycle", Greenwave::new, 30, 90, (g, v) -> g.begin(2, v));
        amounts("begin anew, junctions", used, 2, 5, (g, v) -> g.begin(v, 30));
        amounts("begin anew, cycle", used, 30, 90, (g, v) -> g.begin(5, v));
        amounts("begin behind a bus, junctions", Corridors::called, 2, 5, (g, v) -> g.begin(v, 90));
        amounts("begin behind a bus, cycle", Corridors::called, 30, 90, (g, v) -> g.begin(2, v));
    }

    /** "movement: 0 to 3", "other: 0 to 3", "clearance: 0 to 9, or NONE". */
    private static void setConflictRanges() {
        junctions("setConflict", (g, v) -> g.setConflict(v, 0, 2, 5));
        Supplier<Greenwave> make = Greenwave::new;
        numbers("setConflict, movement, none", make, 0, 3, (g, v) -> g.setConflict(0, v, v == 0 ? 1 : 0, NONE));
        numbers("setConflict, other, none", make, 0, 3, (g, v) -> g.setConflict(1, v == 3 ? 2 : 3, v, NONE));
        numbers("setConflict, movement", make, 0, 3, (g, v) -> g.setConflict(1, v, v > 1 ? 0 : 3, 5));
        numbers("setConflict, other", make, 0, 3, (g, v) -> g.setConflict(0, v > 1 ? 1 : 2, v, 5));
        amounts("setConflict, clearance", make, NONE, 9, (g, v) -> g.setConflict(0, 1, 3, v));
        amounts("setConflict, clearance, other way", make, NONE, 9, (g, v) -> g.setConflict(1, 2, 0, v));
    }

    /** "1 to 15: the movements of the phase 0", "1 to 15 .., or 0 if there is none". */
    private static void setPhasesRanges() {
        Supplier<Greenwave> make = () -> Corridors.withoutConflicts(2, 90);
        junctions("setPhases", (g, v) -> g.setPhases(v, 3, 12, 0, 0));
        amounts("first alone", make, 1, 15, (g, v) -> g.setPhases(0, v, 0, 0, 0));
        amounts("first of two", make, 1, 15, (g, v) -> g.setPhases(1, v, 1, 0, 0));
        amounts("first of four", make, 1, 15, (g, v) -> g.setPhases(1, v, 1, 2, 4));
        amounts("second", make, 0, 15, (g, v) -> g.setPhases(1, 3, v, 0, 0));
        amounts("third", make, 0, 15, (g, v) -> g.setPhases(0, 3, 12, v, 0));
        amounts("fourth", make, 0, 15, (g, v) -> g.setPhases(0, 3, 12, 1, v));
        for (int set = 1; set <= 15; set++) {
            int s = set;
            check.takes("four times " + s, make, g -> g.setPhases(1, s, s, s, s));
        }
    }

    /** "third: .. 0 if second is", "fourth: .. 0 if third is". */
    private static void setPhasesZeroes() {
        Supplier<Greenwave> make = () -> Corridors.withoutConflicts(2, 90);
        amounts("second ahead of a third", make, 1, 15, (g, v) -> g.setPhases(0, 3, v, 12, 0));
        amounts("second ahead of a third and a fourth", make, 1, 15, (g, v) -> g.setPhases(0, 3, v, 12, 3));
        amounts("third ahead of a fourth", make, 1, 15, (g, v) -> g.setPhases(0, 3, 12, v, 1));
        amounts("third without a second", make, 0, 0, (g, v) -> g.setPhases(0, 3, 0, v, 0));
        amounts("fourth without a third", make, 0, 0, (g, v) -> g.setPhases(0, 3, 12, 0, v));
        amounts("fourth without a second", make, 0, 0, (g, v) -> g.setPhases(0, 3, 0, 0, v));
        for (int set = 1; set <= 15; set++) {
            int s = set;
            check.refusesArgument("third without a second " + s, make, g -> g.setPhases(0, 3, 0, s, 0));
            check.refusesArgument("third and fourth without a second " + s, make, g -> g.setPhases(0, 3, 0, s, s));
            check.refusesArgument("fourth without a third " + s, make, g -> g.setPhases(0, 3, 12, 0, s));
            check.refusesArgument("fourth alone " + s, make, g -> g.setPhases(0, 3, 0, 0, s));
        }
    }

    /** "movement: 0 to 3", "flow: 0 to 1800". */
    private static void setFlowRanges() {
        junctions("setFlow", (g, v) -> g.setFlow(v, 2, 100));
        numbers("setFlow, movement", Greenwave::new, 0, 3, (g, v) -> g.setFlow(1, v, 100));
        for (int movement = 0; movement < 4; movement++) {
            int m = movement;
            amounts("setFlow of " + m, Greenwave::new, 0, 1800, (g, v) -> g.setFlow(0, m, v));
        }
    }

    /** "the number of a junction that is not the last one", "seconds: 1 to 60", "room: 1 to 40". */
    private static void setLinkRanges() {
        junctionsWithLinks("setLink", (g, v) -> g.setLink(v, 10, 20));
        for (int junction = 0; junction < 4; junction++) {
            int k = junction;
            amounts("setLink, seconds", () -> Corridors.made(5, 35), 1, 60, (g, v) -> g.setLink(k, v, 3));
            amounts("setLink, room", () -> Corridors.made(5, 35), 1, 40, (g, v) -> g.setLink(k, 2, v));
        }
    }

    /** "offset: 0 to the cycle less 1". */
    private static void setOffsetRanges() {
        junctions("setOffset", (g, v) -> g.setOffset(v, 10));
        int[] cycles = {30, 31, 60, 64, 65, 89, 90};
        for (int cycle : cycles) {
            amounts("setOffset in " + cycle, () -> Corridors.made(3, cycle), 0, cycle - 1, (g, v) -> g.setOffset(0, v));
            amounts("setOffset in " + cycle, () -> Corridors.made(3, cycle), 0, cycle - 1, (g, v) -> g.setOffset(2, v));
        }
    }

    // ---- plans, and running

    /** "junction: the number of a junction". */
    private static void junctionRanges() {
        junctions("hasPlan", (g, v) -> g.hasPlan(v));
        junctions("green", (g, v) -> g.green(v, 0));
        junctions("clearing", (g, v) -> g.clearing(v, 0));
        junctions("offset", (g, v) -> g.offset(v));
        junctions("isGreen", (g, v) -> g.isGreen(v, 0, 0));
        junctions("breaches", (g, v) -> g.breaches(v));
        junctions("callBus", (g, v) -> g.callBus(v, 0));
        junctions("phaseNow", (g, v) -> g.phaseNow(v));
        junctions("queue", (g, v) -> g.queue(v));
    }

    /** "junction: the number of a junction that is not the last one". */
    private static void linkRanges() {
        junctionsWithLinks("held", (g, v) -> g.held(v));
        numbers("held, when seconds have run", () -> Corridors.ran(99), 0, 0, (g, v) -> g.held(v));
    }

    /** "phase: the number of a phase": "a junction has 1 to 4 phases, numbered from 0". */
    private static void phaseRanges() {
        for (int count = 1; count <= 4; count++) {
            int n = count;
            Supplier<Greenwave> make = () -> {
                Greenwave x = Corridors.made(2, 60);
                x.setPhases(1, 1, n > 1 ? 2 : 0, n > 2 ? 4 : 0, n > 3 ? 8 : 0);
                return x;
            };
            check.is("phases", make.get().setPhases(1, 1, n > 1 ? 2 : 0, n > 2 ? 4 : 0, n > 3 ? 8 : 0), n);
            numbers("green of " + n, make, 0, n - 1, (g, v) -> g.green(1, v));
            numbers("clearing of " + n, make, 0, n - 1, (g, v) -> g.clearing(1, v));
            numbers("green of the other one", make, 0, 1, (g, v) -> g.green(0, v));
        }
    }

    /** "movement: 0 to 3", "second: 0 to 100000". */
    private static void isGreenRanges() {
        numbers("isGreen, movement", Greenwave::new, 0, 3, (g, v) -> g.isGreen(1, v, 5));
        amounts("isGreen, second", Greenwave::new, 0, 100000, (g, v) -> g.isGreen(0, 0, v));
        amounts("isGreen, second, offset", () -> {
            Greenwave x = Corridors.made(2, 90);
            x.setOffset(1, 89);
            x.run(7);
            return x;
        }, 0, 100000, (g, v) -> g.isGreen(1, 3, v));
    }

    /** "seconds: 1 to 600". */
    private static void runRanges() {
        amounts("run", Greenwave::new, 1, 600, (g, v) -> g.run(v));
        amounts("run on", () -> Corridors.ran(33), 1, 600, (g, v) -> g.run(v));
    }

    /** "movement: 0 to 3". */
    private static void callBusRanges() {
        numbers("callBus, movement", Greenwave::new, 0, 3, (g, v) -> g.callBus(1, v));
        numbers("callBus, movement, in a clearing", () -> Corridors.ran(27), 0, 3, (g, v) -> g.callBus(0, v));
    }
}
