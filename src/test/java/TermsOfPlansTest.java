/**
 * The document's sentences on conflicts, phases, plans, offsets and bands, each with what is just
 * inside its boundary, at it and just outside it. Above each test stand the words that it tests.
 */
public final class TermsOfPlansTest {
    private static final int NONE = Greenwave.NONE;
    private static final Check check = new Check("TermsOfPlansTest");

    public static void main(String[] args) {
        cycleIsOneForAll();
        setsAreBits();
        conflictsAtFirst();
        conflictsGoBothWays();
        clearanceOfNothingIsAConflict();
        conflictsInEachPhase();
        phasesAtFirst();
        clearingIsTheGreatest();
        clearingIsToTheNextPhase();
        leastGreens();
        flowsAtFirst();
        weightIsTheGreatestFlow();
        sharesAreRoundedDown();
        noWeightsShareAlike();
        restGoesFromThePhase0On();
        restGoesToPhasesWithoutWeight();
        plansThatFit();
        plansThatFitTheLongestCycle();
        plansComeAndGo();
        offsetBeginsThePhase0();
        offsetHasNoEnd();
        greenHasEdges();
        clearingOfNothingHasNoSecond();
        greenInEachPhaseThatHasIt();
        check.finish();
    }

    // ---- the corridor

    /** "one cycle for all, 30 to 90 seconds" */
    private static void cycleIsOneForAll() {
        int[] cycles = {30, 31, 59, 60, 61, 63, 64, 65, 89, 90};
        for (int cycle : cycles) {
            for (int junctions = 2; junctions <= 5; junctions++) {
                Greenwave x = Corridors.made(junctions, cycle);
                for (int k = 0; k < junctions; k++) {
                    check.is("all greens and clearings", x.green(k, 0) + x.green(k, 1) + 6, cycle);
                    check.yes("green in 0", x.isGreen(k, 0, 0));
                    check.no("not in the last second", x.isGreen(k, 0, cycle - 1));
                    check.yes("green in the cycle's length", x.isGreen(k, 0, cycle));
                }
            }
        }
    }

    /** "Sets of movements are numbers with the bit m for the movement m" */
    private static void setsAreBits() {
        Greenwave x = Corridors.withoutConflicts(2, 60);
        for (int set = 1; set <= 15; set++) {
            x.setPhases(0, set, 0, 0, 0);
            x.setPhases(1, 15, set, 0, 0);
            for (int m = 0; m < 4; m++) {
                boolean isIn = set / (1 << m) % 2 == 1;
                check.same("the movement " + m + " of the set " + set, "" + x.isGreen(0, m, 0), "" + isIn);
                check.same("the same in the phase 1", "" + x.isGreen(1, m, x.green(1, 0)), "" + isIn);
            }
        }
    }

    // ---- conflicts

    private static int firstClearance(int movement, int other) {
        return movement / 2 == other / 2 ? NONE : 3;
    }

    /** "at first 0 and 2, 0 and 3, 1 and 2, and 1 and 3 conflict with 3 seconds, and others do not" */
    private static void conflictsAtFirst() {
        for (int junctions = 2; junctions <= 5; junctions++) {
            Greenwave x = Corridors.made(junctions, 60);
            Greenwave y = Corridors.made(junctions, 60);
            for (int k = 0; k < junctions; k++) {
                for (int m = 0; m < 4; m++) {
                    for (int o = 0; o < m; o++) {
                        check.is("of " + o + " and " + m, x.setConflict(k, o, m, NONE), firstClearance(o, m));
                        check.is("of " + m + " and " + o, y.setConflict(k, m, o, NONE), firstClearance(o, m));
                    }
                }
            }
        }
    }

    /** "Each two movements of a junction conflict with some clearance", "0 to 9 seconds" */
    private static void conflictsGoBothWays() {
        Greenwave x = Corridors.made(3, 90);
        x.setPhases(1, 1, 2, 4, 8);
        int[] clearances = {0, 1, 8, 9, NONE, 9, NONE};
        for (int m = 0; m < 4; m++) {
            for (int o = 0; o < m; o++) {
                int before = firstClearance(m, o);
                for (int clearance : clearances) {
                    check.is("of " + m + " and " + o, x.setConflict(1, m, o, clearance), before);
                    check.is("of " + o + " and " + m, x.setConflict(1, o, m, clearance), clearance);
                    before = clearance;
                }
            }
        }
        check.is("the junction 0 has its own", x.setConflict(0, 0, 2, 3), 3);
        check.is("the junction 2 has its own", x.setConflict(2, 3, 1, 3), 3);
    }

    /** "conflict with some clearance, 0 to 9 seconds, or do not conflict"; "No two movements of a phase conflict" */
    private static void clearanceOfNothingIsAConflict() {
        for (int clearance = 0; clearance <= 9; clearance++) {
            int c = clearance;
            check.refusesState("a conflict of " + c + " in a phase", Greenwave::new, g -> g.setConflict(1, 2, 3, c));
            check.refusesState("a phase with a conflict of " + c, () -> {
                Greenwave x = new Greenwave();
                x.setPhases(0, 1, 2, 4, 8);
                x.setConflict(0, 1, 0, c);
                return x;
            }, g -> g.setPhases(0, 3, 4, 8, 0));
        }
        check.takes("none in a phase", Greenwave::new, g -> g.setConflict(1, 2, 3, NONE));
        check.takes("a phase with none", () -> {
            Greenwave x = new Greenwave();
            x.setPhases(0, 1, 2, 4, 8);
            x.setConflict(0, 1, 0, 0);
            x.setConflict(0, 1, 0, NONE);
            return x;
        }, g -> g.setPhases(0, 3, 4, 8, 0));
    }

    /** "No two movements of a phase conflict" */
    private static void conflictsInEachPhase() {
        for (int phase = 0; phase < 4; phase++) {
            int[] alone = {1, 2, 1, 2};
            int[] both = {1, 2, 1, 2};
            both[phase] = 3;
            check.refusesState("a new conflict in the phase " + phase, () -> {
                Greenwave x = new Greenwave();
                x.setPhases(0, both[0], both[1], both[2], both[3]);
                return x;
            }, g -> g.setConflict(0, 1, 0, 0));
            check.refusesState("two that conflict, in the phase " + phase, () -> {
                Greenwave x = new Greenwave();
                x.setPhases(0, alone[0], alone[1], alone[2], alone[3]);
                x.setConflict(0, 1, 0, 0);
                return x;
            }, g -> g.setPhases(0, both[0], both[1], both[2], both[3]));
            check.takes("a conflict between phases", () -> {
                Greenwave x = new Greenwave();
                x.setPhases(0, alone[0], alone[1], alone[2], alone[3]);
                return x;
            }, g -> g.setConflict(0, 1, 0, 0));
        }
        check.takes("the other junction has them in a phase", () -> {
            Greenwave x = new Greenwave();
            x.setPhases(0, 1, 2, 12, 0);
            return x;
        }, g -> g.setConflict(0, 1, 0, 9));
        check.takes("a phase that is no more", () -> {
            Greenwave x = new Greenwave();
            x.setPhases(0, 1, 2, 4, 3);
            x.setPhases(0, 1, 2, 4, 0);
            return x;
        }, g -> g.setConflict(0, 1, 0, 9));
    }

    // ---- phases

    /** "at first two: 0 with the movements 0 and 1, and 1 with 2 and 3" */
    private static void phasesAtFirst() {
        for (int junctions = 2; junctions <= 5; junctions++) {
            Greenwave x = Corridors.made(junctions, 60);
            for (int k = 0; k < junctions; k++) {
                for (int m = 0; m < 4; m++) {
                    check.same("in the phase 0", "" + x.isGreen(k, m, 0), "" + (m < 2));
                    check.same("in the phase 1", "" + x.isGreen(k, m, 29), "" + (m > 1));
                }
            }
        }
        check.refusesIndex("no phase 2", Greenwave::new, g -> g.green(0, 2));
        check.refusesIndex("no clearing behind a phase 2", Greenwave::new, g -> g.clearing(0, 2));
    }

    /** "the greatest clearance between a movement of it and a conflicting one .. 0 if there are none" */
    private static void clearingIsTheGreatest() {
        int[][] pairs = {{0, 2}, {0, 3}, {1, 2}, {1, 3}};
        for (int[] greatest : pairs) {
            Greenwave x = new Greenwave();
            for (int[] pair : pairs) {
                x.setConflict(0, pair[0], pair[1], pair == greatest ? 7 : 6);
                x.setConflict(1, pair[0], pair[1], pair == greatest ? 0 : NONE);
            }
            check.is("7 and others 6", x.clearing(0, 0), 7);
            check.is("7 and others 6, behind the last", x.clearing(0, 1), 7);
            check.is("one of 0 alone", x.clearing(1, 0) + x.clearing(1, 1), 0);
            x.setConflict(1, greatest[0], greatest[1], 1);
            check.is("one of 1 alone", x.clearing(1, 0) + x.clearing(1, 1), 2);
            x.setConflict(1, greatest[0], greatest[1], NONE);
            check.is("none", x.clearing(1, 0) + x.clearing(1, 1), 0);
        }
    }

    /** Each two movements conflict; 0 and 1 with 1, 1 and 2 with 2, 2 and 3 with 4, 3 and 0 with 8, others with 9. */
    private static Greenwave allConflicting() {
        Greenwave x = Corridors.made(2, 90);
        x.setPhases(0, 1, 2, 4, 8);
        x.setConflict(0, 0, 1, 1);
        x.setConflict(0, 1, 2, 2);
        x.setConflict(0, 2, 3, 4);
        x.setConflict(0, 3, 0, 8);
        x.setConflict(0, 0, 2, 9);
        x.setConflict(0, 1, 3, 9);
        return x;
    }

    private static void isClearing(Greenwave x, int... due) {
        for (int phase = 0; phase < due.length; phase++) {
            check.is("the clearing behind " + phase + " of " + due.length, x.clearing(0, phase), due[phase]);
        }
    }

    /** "of the next phase (behind the last one comes the phase 0)" */
    private static void clearingIsToTheNextPhase() {
        Greenwave x = allConflicting();
        isClearing(x, 1, 2, 4, 8);
        x.setPhases(0, 1, 2, 4, 0);
        isClearing(x, 1, 2, 9);
        x.setPhases(0, 1, 2, 0, 0);
        isClearing(x, 1, 1);
        x.setPhases(0, 8, 4, 0, 0);
        isClearing(x, 4, 4);
        x.setPhases(0, 1, 0, 0, 0);
        isClearing(x, 0);
        x.setPhases(0, 4, 4, 4, 1);
        isClearing(x, 0, 0, 9, 9);
        x.setPhases(0, 8, 1, 8, 1);
        isClearing(x, 8, 8, 8, 8);
    }

    /** "The least green of a phase is 5 seconds, or 8 if it has the movement 3." */
    private static void leastGreens() {
        for (int set = 1; set <= 14; set++) {
            int other = set < 8 ? 8 : 15 - set;
            Greenwave x = Corridors.withoutConflicts(2, 60);
            x.setPhases(0, set, other, 0, 0);
            for (int m = 0; m < 4; m++) {
                x.setFlow(0, m, other >> m == 1 ? 1800 : 0);
            }
            int least = set < 8 ? 5 : 8;
            check.is("the set " + set + " gets nothing more", x.green(0, 0), least);
            check.is("the other one gets all", x.green(0, 1), 60 - least);
        }
        for (int set = 1; set <= 15; set++) {
            int cycle = 32;
            Greenwave x = Corridors.withoutConflicts(2, cycle);
            check.is("four", x.setPhases(1, set, set, set, set), 4);
            check.yes("8 four times fits into 32", x.hasPlan(1));
            check.is("of 32", x.green(1, 3), 8);
            Greenwave y = Corridors.withoutConflicts(2, cycle - 1);
            y.setPhases(1, set, set, set, set);
            check.same("but not into 31", "" + y.hasPlan(1), "" + (set < 8));
        }
    }

    // ---- plans

    /** "Each movement has a flow, 0 at first." */
    private static void flowsAtFirst() {
        Greenwave x = Corridors.made(5, 60);
        for (int k = 0; k < 5; k++) {
            for (int m = 0; m < 4; m++) {
                check.is("at first", x.setFlow(k, m, 1800), 0);
                check.is("the most", x.setFlow(k, m, 1799), 1800);
                check.is("one less", x.setFlow(k, m, 1), 1799);
                check.is("the least above none", x.setFlow(k, m, 0), 1);
                check.is("none", x.setFlow(k, m, 10 * k + m), 0);
            }
        }
        for (int k = 0; k < 5; k++) {
            for (int m = 0; m < 4; m++) {
                check.is("its own", x.setFlow(k, m, 0), 10 * k + m);
            }
        }
    }

    private static void isGreens(String what, Greenwave x, int... due) {
        for (int phase = 0; phase < due.length; phase++) {
            check.is(what + ", phase " + phase, x.green(0, phase), due[phase]);
        }
    }

    /** "The weight of a phase is the greatest flow of its movements." */
    private static void weightIsTheGreatestFlow() {
        int[][] flows = {{7, 7}, {7, 0}, {0, 7}, {6, 7}, {7, 6}};
        for (int[] flow : flows) {
            Greenwave x = new Greenwave();
            x.setFlow(0, 0, flow[0]);
            x.setFlow(0, 1, flow[1]);
            x.setFlow(0, 2, 7);
            isGreens("7 and 7 of phase 1's first", x, 26, 28);
            x.setFlow(0, 2, 0);
            x.setFlow(0, 3, 7);
            isGreens("7 and 7 of phase 1's second", x, 26, 28);
            x.setFlow(0, 2, 7);
            isGreens("7 and 7 of both", x, 26, 28);
        }
        Greenwave three = Corridors.withoutConflicts(2, 60);
        three.setPhases(0, 7, 8, 0, 0);
        three.setFlow(0, 2, 30);
        three.setFlow(0, 1, 20);
        three.setFlow(0, 0, 10);
        three.setFlow(0, 3, 17);
        isGreens("30 and 17 of 47", three, 35, 25);
    }

    /** "floor(left * weight / sum of all weights) seconds"; left are 60 - 5 - 8 - 3 - 3 = 41 */
    private static void sharesAreRoundedDown() {
        int[][] rows = {
            {20, 21, 5 + 20, 8 + 21}, {1, 40, 5 + 1, 8 + 40}, {40, 1, 5 + 40, 8 + 1},
            {2, 81, 5 + 0 + 1, 8 + 40}, {2, 80, 5 + 1, 8 + 40}, {2, 79, 5 + 1 + 1, 8 + 39},
            {1, 1, 5 + 20 + 1, 8 + 20}, {1800, 1800, 5 + 20 + 1, 8 + 20},
            {1800, 1, 5 + 40 + 1, 8 + 0}, {1, 1800, 5 + 0 + 1, 8 + 40},
            {1800, 0, 5 + 41, 8}, {0, 1800, 5, 8 + 41}, {1, 0, 5 + 41, 8}, {0, 1, 5, 8 + 41}
        };
        for (int[] row : rows) {
            Greenwave x = new Greenwave();
            x.setFlow(0, 1, row[0]);
            x.setFlow(0, 2, row[1]);
            isGreens("weights of " + row[0] + " and " + row[1], x, row[2], row[3]);
        }
        Greenwave most = Corridors.withoutConflicts(2, 90);
        most.setPhases(0, 1, 2, 4, 8);
        for (int m = 0; m < 4; m++) {
            most.setFlow(0, m, 1800);
        }
        isGreens("67 * 1800 / 7200", most, 5 + 16 + 1, 5 + 16 + 1, 5 + 16 + 1, 8 + 16);
    }

    /** "or floor(left / number of phases) if all weights are 0" */
    private static void noWeightsShareAlike() {
        Greenwave x = Corridors.withoutConflicts(2, 60);
        x.setPhases(0, 1, 0, 0, 0);
        isGreens("55", x, 60);
        x.setPhases(0, 1, 2, 0, 0);
        isGreens("50", x, 30, 30);
        x.setPhases(0, 1, 2, 4, 0);
        isGreens("45", x, 20, 20, 20);
        x.setPhases(0, 1, 2, 4, 1);
        isGreens("40", x, 15, 15, 15, 15);
        x.setFlow(0, 3, 1800);
        isGreens("the flow of a movement without a phase is no weight", x, 15, 15, 15, 15);
        x.setFlow(0, 1, 1);
        isGreens("one weight of 1", x, 5, 45, 5, 5);
    }

    private static Greenwave fourPhases(int cycle) {
        Greenwave x = Corridors.made(2, cycle);
        x.setPhases(0, 1, 2, 4, 8);
        return x;
    }

    /** "what remains then goes to the phases, one second each, from the phase 0 on"; left are cycle - 29 */
    private static void restGoesFromThePhase0On() {
        isGreens("28 = 4 * 7", fourPhases(57), 12, 12, 12, 15);
        isGreens("29 = 4 * 7 + 1", fourPhases(58), 13, 12, 12, 15);
        isGreens("30 = 4 * 7 + 2", fourPhases(59), 13, 13, 12, 15);
        isGreens("31 = 4 * 7 + 3", fourPhases(60), 13, 13, 13, 15);
        isGreens("32 = 4 * 8", fourPhases(61), 13, 13, 13, 16);
        isGreens("1", fourPhases(30), 6, 5, 5, 8);
        isGreens("3", fourPhases(32), 6, 6, 6, 8);
        isGreens("4", fourPhases(33), 6, 6, 6, 9);
    }

    private static Greenwave weighed(int cycle, int... weights) {
        Greenwave x = fourPhases(cycle);
        for (int m = 0; m < 4; m++) {
            x.setFlow(0, m, weights[m]);
        }
        return x;
    }

    /** "what remains then goes to the phases, one second each": also to those with a weight of 0 */
    private static void restGoesToPhasesWithoutWeight() {
        isGreens("31 = 3 * 10 + 1", weighed(60, 0, 1, 1, 1), 6, 15, 15, 18);
        isGreens("32 = 3 * 10 + 2", weighed(61, 0, 1, 1, 1), 6, 16, 15, 18);
        isGreens("33 = 3 * 11", weighed(62, 0, 1, 1, 1), 5, 16, 16, 19);
        isGreens("31 = 2 * 15 + 1", weighed(60, 0, 0, 1, 1), 6, 5, 20, 23);
        isGreens("32 = 3 * 10 + 2, the last without", weighed(61, 1, 1, 1, 0), 16, 16, 15, 8);
        isGreens("2 * 1 / 5 and 2 * 2 / 5 are 0: 1 + 1", weighed(31, 1, 1, 1, 2), 6, 6, 5, 8);
    }

    private static Greenwave filling(int cycle, int clearances) {
        Greenwave x = fourPhases(cycle);
        x.setConflict(0, 1, 2, Math.min(9, clearances));
        x.setConflict(0, 3, 0, Math.max(0, clearances - 9));
        return x;
    }

    /** "If the clearings and the least greens do not fit into the cycle, the junction has no plan." */
    private static void plansThatFit() {
        for (int seconds = 30; seconds <= 40; seconds++) {
            int cycle = seconds;
            int free = cycle - 23;
            check.yes("a second is left", filling(cycle, free - 1).hasPlan(0));
            isGreens("a second is left", filling(cycle, free - 1), 6, 5, 5, 8);
            check.yes("nothing is left", filling(cycle, free).hasPlan(0));
            isGreens("nothing is left", filling(cycle, free), 5, 5, 5, 8);
            check.no("a second too much", filling(cycle, free + 1).hasPlan(0));
            check.yes("the other junction fits", filling(cycle, free + 1).hasPlan(1));
            check.refusesState("no green", () -> filling(cycle, free + 1), g -> g.green(0, 0));
        }
    }

    /** The same with what needs most: 8 + 5 + 8 + 5 seconds, and 9 behind each. */
    private static void plansThatFitTheLongestCycle() {
        for (int cycle = 61; cycle <= 63; cycle++) {
            Greenwave x = Corridors.made(2, cycle);
            x.setPhases(0, 8, 1, 8, 1);
            x.setConflict(0, 3, 0, 9);
            check.same("62 seconds", "" + x.hasPlan(0), "" + (cycle >= 62));
            if (cycle >= 62) {
                isGreens("62 seconds", x, 8 + cycle - 62, 5, 8, 5);
                check.is("kept apart", x.breaches(0), 0);
            }
        }
    }

    /** A plan follows what is set, in whichever order. */
    private static void plansComeAndGo() {
        Greenwave x = Corridors.planless(2);
        check.no("31 into 30", x.hasPlan(1));
        x.setFlow(1, 0, 400);
        x.setFlow(1, 2, 100);
        check.no("a flow does not help", x.hasPlan(1));
        x.setOffset(1, 7);
        check.is("an offset can be set", x.setPhases(1, 3, 4, 0, 0), 2);
        check.yes("28 into 30", x.hasPlan(1));
        check.is("2 * 400 / 500, and 1", x.green(1, 0), 7);
        check.is("2 * 100 / 500", x.green(1, 1), 5);
        check.yes("the offset holds", x.isGreen(1, 0, 7));
        x.setPhases(1, 3, 12, 0, 0);
        check.no("31 into 30 again", x.hasPlan(1));
        x.setConflict(1, 2, 0, 3);
        check.yes("19 into 30", x.hasPlan(1));
        check.is("11 * 400 / 500, and 1", x.green(1, 0), 14);
        x.setConflict(1, 2, 0, 9);
        x.begin(2, 30);
        check.yes("begun anew", x.hasPlan(1));
    }

    // ---- offsets

    /** "The offset of a junction, 0 at first, is a second of the cycle in which the green of its phase 0 begins." */
    private static void offsetBeginsThePhase0() {
        int[] cycles = {30, 31, 60, 63, 64, 65, 90};
        for (int cycle : cycles) {
            int[] offsets = {0, 1, 29, cycle - 2, cycle - 1};
            Greenwave x = Corridors.made(2, cycle);
            int before = 0;
            for (int offset : offsets) {
                check.is("the offset before", x.setOffset(1, offset), before);
                check.is("the offset", x.offset(1), offset);
                check.yes("green from there", x.isGreen(1, 0, offset));
                check.no("not ahead of it", x.isGreen(1, 0, offset + cycle - 1));
                check.no("not for the phase 1", x.isGreen(1, 2, offset));
                before = offset;
            }
            check.is("the other one has its own", x.offset(0), 0);
        }
    }

    /** "the phases follow one another from there .. again in each cycle, without an end ahead or behind" */
    private static void offsetHasNoEnd() {
        int[] cycles = {30, 61, 90};
        for (int cycle : cycles) {
            for (int offset = 0; offset < cycle; offset++) {
                Greenwave x = Corridors.made(2, cycle);
                x.setOffset(1, offset);
                for (int second = 0; second <= cycle; second++) {
                    int movement = second % 4;
                    int since = (second - offset + cycle) % cycle;
                    check.same("like without an offset", "" + x.isGreen(1, movement, second),
                            "" + x.isGreen(0, movement, since));
                }
                for (int second = 99990; second <= 100000; second++) {
                    check.same("far off", "" + x.isGreen(1, 1, second),
                            "" + x.isGreen(0, 1, (second - offset) % cycle));
                }
            }
        }
    }

    /** "A movement is green in a second if it lies in the green of a phase that has it." */
    private static void greenHasEdges() {
        Greenwave x = fourPhases(60);
        x.setConflict(0, 0, 1, 1);
        x.setConflict(0, 2, 3, 2);
        isGreens("28 = 4 * 7", x, 12, 12, 12, 15);
        isClearing(x, 1, 3, 2, 3);
        int[] begins = {0, 13, 28, 42};
        int[] ends = {12, 25, 40, 57};
        for (int m = 0; m < 4; m++) {
            for (int second = 0; second < 60; second++) {
                boolean isDue = second >= begins[m] && second < ends[m];
                check.same("the movement " + m + " in " + second, "" + x.isGreen(0, m, second), "" + isDue);
            }
        }
    }

    /** "0 if there are none": the next phase begins in the next second. */
    private static void clearingOfNothingHasNoSecond() {
        Greenwave x = fourPhases(60);
        check.is("none between 0 and 1", x.clearing(0, 0), 0);
        check.yes("the last second of 0", x.isGreen(0, 0, 12));
        check.no("1 not yet", x.isGreen(0, 1, 12));
        check.yes("the first second of 1", x.isGreen(0, 1, 13));
        check.no("0 no longer", x.isGreen(0, 0, 13));
        Greenwave y = Corridors.withoutConflicts(2, 30);
        for (int second = 0; second <= 60; second++) {
            check.yes("always one of both", y.isGreen(0, 0, second) != y.isGreen(0, 2, second));
        }
    }

    /** "of a phase that has it": one phase of several, or several. */
    private static void greenInEachPhaseThatHasIt() {
        Greenwave x = Corridors.withoutConflicts(2, 60);
        int[] sets = {1, 2 + 1, 2, 4};
        x.setPhases(0, sets[0], sets[1], sets[2], sets[3]);
        isGreens("40 = 4 * 10", x, 15, 15, 15, 15);
        for (int second = 0; second < 60; second++) {
            for (int m = 0; m < 4; m++) {
                boolean isDue = (sets[second / 15] & 1 << m) != 0;
                check.same("the movement " + m + " in " + second, "" + x.isGreen(0, m, second), "" + isDue);
            }
        }
    }
}
