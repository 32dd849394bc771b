/**
 * The document's sentences on bands, on the offsets that make them great, and on breaches, each
 * with what is just inside its boundary, at it and just outside it.
 */
public final class TermsOfBandsTest {
    private static final int NONE = Greenwave.NONE;
    private static final int[] CYCLES = {30, 31, 60, 63, 64, 65, 66, 89, 90};
    private static final Check check = new Check("TermsOfBandsTest");

    public static void main(String[] args) {
        linksTake10AtFirst();
        linksTakeTheSameBothWays();
        linksAddUp();
        linksOfAllLengths();
        eachSecondOfTheCycleCounts();
        eachSecondOfTheCycleCountsBack();
        bandsOfAllAndOfNothing();
        improveFindsTheOnlyBest();
        improveTakesTheLowestOfSeveral();
        improveTakesOneSecond();
        improveWithoutAnyBand();
        improveTellsBothBands();
        improveTakesAllJunctionsFrom1On();
        bestByAllOfTwo();
        bestByAllOfThree();
        breachesNeedAConflict();
        breachesByClearance();
        breachesByDistance();
        breachesCountClearingsAsDistance();
        breachesCountASecondOnce();
        breachesBetweenAllPhases();
        check.finish();
    }

    private static void areBands(String what, Greenwave x, int forward, int backward) {
        check.is(what + ", forward", x.band(true), forward);
        check.is(what + ", backward", x.band(false), backward);
    }

    // ---- bands

    /** "The link from a junction to the next one takes some seconds, 10 at first"; the greens are of 26. */
    private static void linksTake10AtFirst() {
        int[] due = {16, 6, 0, 0};
        for (int junctions = 2; junctions <= 5; junctions++) {
            Greenwave x = Corridors.made(junctions, 60);
            areBands("at first", x, due[junctions - 2], due[junctions - 2]);
            for (int k = 0; k < junctions - 1; k++) {
                x.setLink(k, 10, 20);
            }
            areBands("10 as set", x, due[junctions - 2], due[junctions - 2]);
            for (int k = 0; k < junctions - 1; k++) {
                Greenwave y = Corridors.made(junctions, 60);
                for (int other = 0; other < junctions - 1; other++) {
                    y.setLink(other, other == k ? 10 : 1, 20);
                }
                int all = 10 + junctions - 2;
                areBands("10 and others 1", y, 26 - all, 26 - all);
                y.setLink(k, 9, 20);
                areBands("9 and others 1", y, 26 - all + 1, 26 - all + 1);
                y.setLink(k, 11, 20);
                areBands("11 and others 1", y, 26 - all - 1, 26 - all - 1);
            }
        }
    }

    /** "takes some seconds, .. the same both ways" */
    private static void linksTakeTheSameBothWays() {
        for (int seconds = 1; seconds <= 25; seconds++) {
            Greenwave x = new Greenwave();
            x.setLink(0, seconds, 20);
            areBands("a link of " + seconds, x, 26 - seconds, 26 - seconds);
            int against = Math.max(0, 26 - 2 * seconds) + Math.max(0, 26 - (60 - 2 * seconds));
            x.setOffset(1, seconds);
            areBands("a wave forward", x, 26, against);
            x.setOffset(1, 60 - seconds);
            areBands("a wave backward", x, against, 26);
        }
    }

    /** "the seconds of all links between the junction 0 and k", "of all links between k and the last junction" */
    private static void linksAddUp() {
        int[] links = {3, 7, 12, 1};
        for (int junctions = 2; junctions <= 5; junctions++) {
            Greenwave x = Corridors.made(junctions, 60);
            Greenwave y = Corridors.made(junctions, 60);
            int sum = 0;
            for (int k = 0; k < junctions - 1; k++) {
                x.setLink(k, links[k], 20);
                y.setLink(k, links[k], 20);
                sum += links[k];
            }
            areBands("no offsets", x, 26 - sum, 26 - sum);
            int ahead = 0;
            for (int k = 0; k < junctions; k++) {
                x.setOffset(k, ahead);
                y.setOffset(k, sum - ahead);
                ahead += k < junctions - 1 ? links[k] : 0;
            }
            check.is("a wave forward", x.band(true), 26);
            check.is("a wave backward", y.band(false), 26);
            x.setOffset(junctions - 1, sum + 1);
            check.is("the last one 1 late", x.band(true), 25);
            x.setOffset(junctions - 1, sum - 1);
            check.is("the last one 1 early", x.band(true), 25);
            y.setOffset(0, sum + 1);
            check.is("the first one 1 late", y.band(false), 25);
            y.setOffset(0, sum - 1);
            check.is("the first one 1 early", y.band(false), 25);
        }
    }

    /** "seconds: 1 to 60": a whole cycle more on the way does not matter. */
    private static void linksOfAllLengths() {
        for (int seconds = 1; seconds <= 60; seconds++) {
            Greenwave x = Corridors.made(2, 30);
            x.setLink(0, seconds, 20);
            int apart = Math.min(seconds % 30, 30 - seconds % 30);
            areBands("greens of 11, a link of " + seconds, x, Math.max(0, 11 - apart), Math.max(0, 11 - apart));
            Greenwave y = Corridors.made(2, 90);
            y.setLink(0, seconds, 20);
            int due = Math.max(0, 41 - seconds) + Math.max(0, 41 - (90 - seconds));
            areBands("greens of 41, a link of " + seconds, y, due, due);
        }
    }

    /** Two greens of which 1 second meets: it is each second of the cycle in turn. */
    private static void eachSecondOfTheCycleCounts() {
        for (int cycle : CYCLES) {
            for (int offset = 0; offset < cycle; offset++) {
                Greenwave x = Corridors.made(2, cycle);
                int green = x.green(0, 0);
                x.setOffset(0, offset);
                x.setOffset(1, (offset + green - 1 + 10) % cycle);
                check.is("one second", x.band(true), 1);
                x.setOffset(1, (offset + green + 10) % cycle);
                check.is("no second", x.band(true), 0);
                x.setOffset(1, (offset + green - 2 + 10) % cycle);
                check.is("two seconds", x.band(true), 2);
                x.setOffset(1, (offset + 10) % cycle);
                check.is("all of the green", x.band(true), green);
            }
        }
    }

    private static void eachSecondOfTheCycleCountsBack() {
        for (int cycle : CYCLES) {
            for (int offset = 0; offset < cycle; offset++) {
                Greenwave x = Corridors.made(2, cycle);
                int green = x.green(1, 0);
                x.setOffset(1, offset);
                x.setOffset(0, (offset + green - 1 + 10) % cycle);
                check.is("one second back", x.band(false), 1);
                x.setOffset(0, (offset + green + 10) % cycle);
                check.is("no second back", x.band(false), 0);
                x.setOffset(0, (offset + green - 2 + 10) % cycle);
                check.is("two seconds back", x.band(false), 2);
                x.setOffset(0, (offset + 10) % cycle);
                check.is("all of the green back", x.band(false), green);
            }
        }
    }

    /** "Returns 0 to the cycle." */
    private static void bandsOfAllAndOfNothing() {
        for (int cycle : CYCLES) {
            for (int junctions = 2; junctions <= 5; junctions++) {
                Greenwave x = Corridors.made(junctions, cycle);
                for (int k = 0; k < junctions; k++) {
                    x.setPhases(k, 3, 0, 0, 0);
                    x.setOffset(k, k * 7);
                }
                areBands("always green", x, cycle, cycle);
                x.setPhases(junctions - 1, 1, 0, 0, 0);
                areBands("backward never at the last one", x, cycle, 0);
                x.setPhases(junctions - 1, 3, 0, 0, 0);
                x.setPhases(0, 2, 0, 0, 0);
                areBands("forward never at the first one", x, 0, cycle);
                x.setPhases(0, 12, 0, 0, 0);
                areBands("never at the first one", x, 0, 0);
            }
        }
    }

    // ---- improve

    /** With a link of half a cycle both ways want the same offset, half a cycle behind that of the junction 0. */
    private static void improveFindsTheOnlyBest() {
        for (int cycle = 60; cycle <= 90; cycle += 2) {
            for (int offset = 0; offset < cycle; offset++) {
                Greenwave x = Corridors.made(2, cycle);
                x.setLink(0, cycle / 2, 20);
                x.setOffset(0, offset);
                x.setOffset(1, offset / 2);
                check.is("both bands", x.improve(), 2 * x.green(0, 0));
                check.is("the offset", x.offset(1), (offset + cycle / 2) % cycle);
                check.is("the junction 0 stays", x.offset(0), offset);
            }
        }
    }

    /** "of several the lowest": with a link of 10, up to 10 more or less than that of the junction 0 are as good. */
    private static void improveTakesTheLowestOfSeveral() {
        for (int offset = 0; offset < 60; offset++) {
            for (int before = 0; before < 60; before += 59) {
                Greenwave x = new Greenwave();
                x.setOffset(0, offset);
                x.setOffset(1, before);
                check.is("both bands", x.improve(), 32);
                check.is("the lowest for " + offset, x.offset(1), offset <= 10 || offset >= 50 ? 0 : offset - 10);
            }
        }
    }

    /**
     * "with which both bands together are the greatest", be it 1: forward greens of 5, of which those of
     * the junctions 0 and 2 have one second in common, which the junction 1 needs from 10 to 14. Behind
     * that the junction 2 finds all 5; without a second in common it would find none.
     */
    private static void improveTakesOneSecond() {
        int[] due = {5, 5, 0};
        for (int late = 3; late <= 5; late++) {
            Greenwave x = Corridors.made(3, 60);
            for (int k = 0; k < 3; k++) {
                x.setPhases(k, 1, 8, 0, 0);
                x.setFlow(k, 3, 100);
                check.is("the least green", x.green(k, 0), 5);
            }
            x.setOffset(1, 40);
            x.setOffset(2, 20 + late);
            check.is("both bands, when late by " + late, x.improve(), due[late - 3]);
            check.is("the junction 1", x.offset(1), late == 5 ? 0 : 10);
            check.is("the junction 2", x.offset(2), late == 5 ? 0 : 20);
        }
    }

    /** All offsets are as good, so the lowest of all is taken. */
    private static void improveWithoutAnyBand() {
        for (int junctions = 2; junctions <= 5; junctions++) {
            Greenwave x = Corridors.made(junctions, 60);
            x.setPhases(0, 12, 0, 0, 0);
            for (int k = 0; k < junctions; k++) {
                x.setOffset(k, 59 - k);
            }
            check.is("no band", x.improve(), 0);
            check.is("the junction 0 stays", x.offset(0), 59);
            for (int k = 1; k < junctions; k++) {
                check.is("the lowest", x.offset(k), 0);
            }
        }
    }

    /** "Returns both bands together then." */
    private static void improveTellsBothBands() {
        for (int seconds = 1; seconds <= 60; seconds++) {
            for (int junctions = 2; junctions <= 5; junctions++) {
                Greenwave x = Corridors.made(junctions, 70);
                x.setLink(0, seconds, 20);
                x.setPhases(junctions - 1, 1, 12, 3, 0);
                int before = x.band(true) + x.band(false);
                int both = x.improve();
                check.is("both bands", x.band(true) + x.band(false), both);
                check.yes("no worse than before", both >= before);
                check.yes("no more than both cycles", both <= 140);
            }
        }
    }

    /** Only the last junction can be made better, and only it is. */
    private static void improveTakesAllJunctionsFrom1On() {
        for (int junctions = 2; junctions <= 5; junctions++) {
            Greenwave x = Corridors.made(junctions, 60);
            for (int k = 0; k < junctions - 1; k++) {
                x.setPhases(k, 2, 0, 0, 0);
                x.setOffset(k, 20 + k);
            }
            x.setPhases(0, 3, 4, 0, 0);
            x.setPhases(junctions - 1, 2, 4, 0, 0);
            x.setOffset(junctions - 1, 9);
            int way = 10 * (junctions - 1);
            check.is("both greens are of 27", x.improve(), 27);
            check.is("the junction 0 stays", x.offset(0), 20);
            for (int k = 1; k < junctions - 1; k++) {
                check.is("always green", x.offset(k), 0);
            }
            check.is("the last one", x.offset(junctions - 1), (20 - way + 60) % 60);
        }
    }

    // ---- bestByAll

    /** "over all offsets of the junction 1 .., that of the junction 0 being as it is; the offsets stay" */
    private static void bestByAllOfTwo() {
        for (int offset = 0; offset < 60; offset++) {
            Greenwave x = new Greenwave();
            x.setOffset(0, offset);
            x.setOffset(1, 59 - offset);
            check.is("a link of 10", x.bestByAll(), 32);
            x.setLink(0, 30, 20);
            check.is("a link of half a cycle", x.bestByAll(), 52);
            check.is("the offset of 0 stays", x.offset(0), offset);
            check.is("the offset of 1 stays", x.offset(1), 59 - offset);
        }
    }

    private static Greenwave three(int link, int one, int two) {
        Greenwave x = Corridors.made(3, 30);
        x.setPhases(1, 1, 2, 4, 0);
        x.setPhases(2, 8, 2, 1, 0);
        x.setLink(0, link, 20);
        x.setLink(1, 3, 20);
        x.setOffset(0, 17);
        x.setOffset(1, one);
        x.setOffset(2, two);
        return x;
    }

    /** "and of the junction 2 if there is one": the greatest of all that can be tried. */
    private static void bestByAllOfThree() {
        for (int link = 1; link <= 60; link += 8) {
            int greatest = 0;
            for (int one = 0; one < 30; one++) {
                Greenwave x = three(link, one, 0);
                for (int two = 0; two < 30; two++) {
                    x.setOffset(2, two);
                    greatest = Math.max(greatest, x.band(true) + x.band(false));
                }
            }
            for (int offset = 0; offset < 30; offset += 29) {
                Greenwave x = three(link, offset, 29 - offset);
                check.is("the greatest of all", x.bestByAll(), greatest);
                check.is("the offset of 0 stays", x.offset(0), 17);
                check.is("the offset of 1 stays", x.offset(1), offset);
                check.is("the offset of 2 stays", x.offset(2), 29 - offset);
            }
        }
    }

    // ---- breaches

    /**
     * Phases with the movements 0, 1 and 2, of which only 0 and 2 conflict: the green of the phase 1
     * alone, of 5 seconds and more, keeps them apart one way, and the clearing the other way.
     */
    private static Greenwave breaching(int clearance, int more) {
        Greenwave x = Corridors.made(2, 40);
        x.setPhases(1, 1, 2, 4, 0);
        x.setConflict(1, 1, 2, NONE);
        x.setConflict(1, 0, 2, clearance);
        int left = 40 - 15 - Math.max(0, clearance);
        x.setFlow(1, 0, left - more);
        x.setFlow(1, 1, more);
        check.is("between 0 and 2", x.green(1, 1), 5 + more);
        return x;
    }

    /** "another one that conflicts with it" */
    private static void breachesNeedAConflict() {
        check.is("none at first", new Greenwave().breaches(0) + new Greenwave().breaches(1), 0);
        check.is("no conflict", breaching(NONE, 0).breaches(1), 0);
        check.is("a conflict", breaching(9, 0).breaches(1), 4);
        check.is("the other junction", breaching(9, 0).breaches(0), 0);
        Greenwave x = breaching(9, 0);
        x.setPhases(1, 1, 2, 0, 0);
        check.is("the other one is never green", x.breaches(1), 0);
        x.setPhases(1, 3, 0, 0, 0);
        check.is("a single phase", x.breaches(1), 0);
        Greenwave y = breaching(NONE, 0);
        y.setConflict(1, 0, 1, 0);
        check.is("0 seconds behind it, and never in the same one", y.breaches(1), 0);
    }

    /** "in one of as many seconds behind it as their clearance tells", wherever the cycle begins */
    private static void breachesByClearance() {
        for (int clearance = 0; clearance <= 9; clearance++) {
            for (int offset = 0; offset < 40; offset++) {
                Greenwave x = breaching(clearance, 0);
                x.setOffset(1, offset);
                check.is("5 seconds apart, a clearance of " + clearance, x.breaches(1), Math.max(0, clearance - 5));
            }
        }
    }

    private static void breachesByDistance() {
        for (int more = 0; more <= 6; more++) {
            check.is("apart by " + (5 + more), breaching(9, more).breaches(1), Math.max(0, 4 - more));
            check.is("apart by " + (5 + more), breaching(8, more).breaches(1), Math.max(0, 3 - more));
            check.is("apart by " + (5 + more), breaching(6, more).breaches(1), Math.max(0, 1 - more));
        }
    }

    private static void breachesCountClearingsAsDistance() {
        for (int first = 0; first <= 4; first++) {
            for (int second = 0; second <= 4; second++) {
                Greenwave x = breaching(9, 0);
                x.setFlow(1, 0, 1800);
                x.setConflict(1, 0, 1, first);
                x.setConflict(1, 1, 2, second);
                check.is("apart by 5 and " + first + " and " + second, x.breaches(1), Math.max(0, 4 - first - second));
            }
        }
    }

    /** "Counts the seconds of a cycle": a second that breaks several clearances is one. */
    private static void breachesCountASecondOnce() {
        Greenwave x = Corridors.made(2, 50);
        x.setPhases(0, 3, 4, 8, 0);
        x.setConflict(0, 0, 2, NONE);
        x.setConflict(0, 1, 2, NONE);
        x.setConflict(0, 0, 3, 9);
        x.setConflict(0, 1, 3, 8);
        x.setFlow(0, 0, 1);
        check.is("apart by 5", x.green(0, 1), 5);
        check.is("4 of the movement 0, and 3 of those also of 1", x.breaches(0), 4);
        x.setConflict(0, 0, 3, 8);
        check.is("3 of both", x.breaches(0), 3);
        x.setConflict(0, 0, 3, NONE);
        check.is("3 of the movement 1 alone", x.breaches(0), 3);
        x.setConflict(0, 1, 3, 5);
        check.is("5 seconds are kept", x.breaches(0), 0);
    }

    /** Four phases of 5 seconds, of which each two that are not neighbours conflict. */
    private static void breachesBetweenAllPhases() {
        for (int clearance = 0; clearance <= 9; clearance++) {
            Greenwave x = Corridors.withoutConflicts(2, 30);
            x.setPhases(0, 1, 4, 2, 4);
            x.setConflict(0, 0, 1, clearance);
            x.setFlow(0, 0, 1800);
            check.is("the last seconds of 0 and 1", x.breaches(0), 2 * Math.max(0, clearance - 5));
        }
    }
}
