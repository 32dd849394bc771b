/**
 * The document's sentences on seconds that run, arrivals, ready times and links, each with what is
 * just inside its boundary, at it and just outside it. Above each test stand the words that it tests.
 */
public final class TermsOfRunningTest {
    private static final int NONE = Greenwave.NONE;
    private static final Check check = new Check("TermsOfRunningTest");

    public static void main(String[] args) {
        allBeginsWithNothing();
        clockBeginsWith0();
        clockEndsWith7200();
        runTellsItsOwnVehicles();
        runInPartsOrAtOnce();
        arrivalsComeTo3600();
        arrivalsBecomeLessBy3600();
        arrivalsAreSlow();
        arrivalsOfOneMovementAlone();
        movement0AloneLetsLeave();
        queueLeavesInItsSecondSecondOfGreen();
        readyTimeDoesNotGrowAbove2();
        readyTimeEndsWithTheGreen();
        readyTimeStaysWhileBlocked();
        linkTakesItsSeconds();
        linkHoldsItsRoom();
        linkHoldsItsRoomAtFirst();
        linkHoldsThoseOnTheirWay();
        linkHasRoomAfterItsSecond();
        lastJunctionIsNeverBlocked();
        eachJunctionHasItsOwnLink();
        phaseNowHasEdges();
        beginForgetsAll();
        beginForgetsMoreJunctions();
        check.finish();
    }

    /** At each junction there is one phase: always green, or never green for the movement 0. */
    private static Greenwave street(boolean... isGreen) {
        Greenwave x = Corridors.made(isGreen.length, 60);
        for (int k = 0; k < isGreen.length; k++) {
            x.setPhases(k, isGreen[k] ? 3 : 12, 0, 0, 0);
        }
        return x;
    }

    /** Lets more seconds run than one call can. */
    private static void runLong(Greenwave x, int seconds) {
        for (int left = seconds; left > 0; left -= 600) {
            x.run(Math.min(600, left));
        }
    }

    // ---- promises 1, 18, 20, 22 to 25

    private static void allBeginsWithNothing() {
        for (int junctions = 2; junctions <= 5; junctions++) {
            Greenwave x = Corridors.made(junctions, 60);
            check.is("clock, come and through", x.clock() + x.come() + x.through(), 0);
            for (int k = 0; k < junctions; k++) {
                check.is("queue", x.queue(k), 0);
                check.is("offset", x.offset(k), 0);
                check.yes("has a plan", x.hasPlan(k));
                check.is("phase", x.phaseNow(k), 0);
                check.is("held", k < junctions - 1 ? x.held(k) : 0, 0);
            }
        }
    }

    /** "The clock begins with the second 0." */
    private static void clockBeginsWith0() {
        int[] amounts = {1, 2, 599, 600};
        for (int seconds : amounts) {
            Greenwave x = new Greenwave();
            check.is("at first", x.clock(), 0);
            x.callBus(0, 3);
            check.is("behind a bus", x.clock(), 0);
            x.run(seconds);
            check.is("as many as ran", x.clock(), seconds);
            x.run(1);
            check.is("and one", x.clock(), seconds + 1);
        }
    }

    /** "or the clock would be above 7200" */
    private static void clockEndsWith7200() {
        for (int last = 1; last <= 600; last += 599) {
            Greenwave x = new Greenwave();
            runLong(x, 7200 - last);
            int more = last + 1;
            check.same("one too many", Check.answerOf(() -> x.run(more)),
                    more > 600 ? "java.lang.IllegalArgumentException" : "java.lang.IllegalStateException");
            check.is("the clock stays", x.clock(), 7200 - last);
            x.run(last);
            check.is("just as many", x.clock(), 7200);
            check.same("none any more", Check.answerOf(() -> x.run(1)), "java.lang.IllegalStateException");
            check.is("the clock stays there", x.clock(), 7200);
        }
    }

    /** "Returns how many vehicles went through in them." */
    private static void runTellsItsOwnVehicles() {
        Greenwave x = street(true, true);
        x.setFlow(0, 0, 1800);
        check.is("0 to 10", x.run(11), 0);
        check.is("11", x.run(1), 1);
        check.is("12", x.run(1), 0);
        check.is("13 to 16", x.run(4), 2);
        check.is("17", x.run(1), 1);
        check.is("18 to 117", x.run(100), 50);
        check.is("all", x.through(), 54);
    }

    private static Greenwave busy() {
        Greenwave x = Corridors.made(4, 47);
        x.setFlow(0, 0, 1700);
        x.setFlow(1, 2, 900);
        x.setOffset(1, 46);
        x.setOffset(2, 3);
        x.setLink(0, 7, 2);
        x.setLink(1, 60, 5);
        x.setLink(2, 1, 1);
        return x;
    }

    /** One call for many seconds, or many calls for one. */
    private static void runInPartsOrAtOnce() {
        for (int seconds = 1; seconds <= 200; seconds += 13) {
            Greenwave x = busy();
            Greenwave y = busy();
            int all = 0;
            for (int s = 0; s < seconds; s++) {
                all += y.run(1);
            }
            check.is("as many through", x.run(seconds), all);
            check.same("the same in all", Check.stateOf(x), Check.stateOf(y));
        }
    }

    // ---- arrivals

    private static void come(int flow, int... due) {
        Greenwave x = new Greenwave();
        x.setFlow(0, 0, flow);
        for (int second = 1; second <= due.length; second++) {
            x.run(1);
            check.is("come of " + flow + " in " + second + " seconds", x.come(), due[second - 1]);
        }
    }

    /** "if they are 3600 or more then .. a vehicle joins its queue" */
    private static void arrivalsComeTo3600() {
        come(1800, 0, 1, 1, 2, 2, 3, 3, 4);
        come(1799, 0, 0, 1, 1, 2, 2, 3, 3);
        come(1201, 0, 0, 1, 1, 1, 2);
        come(1200, 0, 0, 1, 1, 1, 2, 2, 2, 3);
        come(1199, 0, 0, 0, 1, 1, 1, 2);
        come(900, 0, 0, 0, 1, 1, 1, 1, 2);
        come(899, 0, 0, 0, 0, 1, 1, 1, 1, 2);
        come(0, 0, 0, 0, 0, 0, 0);
    }

    /** "they become less by 3600": what is above is kept. */
    private static void arrivalsBecomeLessBy3600() {
        int[] flows = {1799, 1234, 1001, 601, 7};
        for (int flow : flows) {
            Greenwave x = new Greenwave();
            x.setFlow(0, 0, flow);
            for (int i = 1; i <= 12; i++) {
                x.run(600);
                check.is("come of " + flow, x.come(), 600 * i * flow / 3600);
            }
        }
    }

    /** A flow of 1 needs 3600 seconds. */
    private static void arrivalsAreSlow() {
        Greenwave x = new Greenwave();
        x.setFlow(0, 0, 1);
        runLong(x, 3599);
        check.is("3599", x.come(), 0);
        x.run(1);
        check.is("3600", x.come(), 1);
        runLong(x, 3599);
        check.is("7199", x.come(), 1);
        x.run(1);
        check.is("7200", x.come(), 2);
    }

    /** "At the junction 0, the flow of its movement 0 is added": no other one is. */
    private static void arrivalsOfOneMovementAlone() {
        for (int junctions = 2; junctions <= 5; junctions++) {
            Greenwave x = Corridors.made(junctions, 60);
            for (int k = 0; k < junctions; k++) {
                for (int m = 0; m < 4; m++) {
                    x.setFlow(k, m, k == 0 && m == 0 ? 0 : 1800);
                }
            }
            check.is("none is through", x.run(600), 0);
            check.is("none has come", x.come(), 0);
            for (int k = 0; k < junctions; k++) {
                check.is("none waits", x.queue(k), 0);
            }
        }
    }

    // ---- ready times

    private static void queues(Greenwave x, int... due) {
        for (int i = 0; i < due.length; i++) {
            x.run(1);
            check.is("the queue behind the second " + (x.clock() - 1), x.queue(0), due[i]);
        }
    }

    /** "If its movement 0 is green in this second": no other movement lets a vehicle leave. */
    private static void movement0AloneLetsLeave() {
        for (int set = 1; set <= 15; set++) {
            for (int k = 0; k < 2; k++) {
                Greenwave x = Corridors.withoutConflicts(2, 60);
                x.setFlow(0, 0, 1800);
                x.setPhases(1 - k, 15, 0, 0, 0);
                x.setPhases(k, set, 0, 0, 0);
                x.run(40);
                int left = k == 0 ? x.held(0) + x.through() : x.through();
                check.same("some left " + k + " with " + set, "" + (left > 0), "" + (set % 2 == 1));
            }
        }
        Greenwave y = Corridors.made(2, 60);
        y.setFlow(0, 0, 1800);
        y.setFlow(0, 1, 1800);
        y.setPhases(0, 2, 1, 12, 0);
        check.is("60 - 18 - 6 = 36, and 18 each", y.green(0, 0), 23);
        y.run(23);
        check.is("0 to 22 are green for the movement 1", y.held(0), 0);
        y.run(1);
        check.is("23 is green for the movement 0", y.held(0), 0);
        y.run(1);
        check.is("24, too", y.held(0), 1);
    }

    /** The junction 0 is red up to 39; "grows by 1 ..; if it is 2 .. a vehicle leaves .. and becomes 0". */
    private static void queueLeavesInItsSecondSecondOfGreen() {
        Greenwave x = Corridors.made(2, 90);
        x.setFlow(0, 0, 1800);
        x.setFlow(0, 3, 1800);
        x.setOffset(0, 40);
        check.is("71 / 2, and 1", x.green(0, 0), 41);
        x.run(39);
        check.is("the seconds 0 to 38", x.queue(0), 19);
        queues(x, 20, 20, 20, 20, 20, 20, 20);
        check.is("one left in 41, 43 and 45", x.held(0), 3);
        x.run(33);
        check.is("the seconds 46 to 78: one left in 47, 49, .. 77", x.held(0), 19);
        queues(x, 20, 20, 21, 21);
        check.is("79 and 80 were green, 81 and 82 were not", x.phaseNow(0), NONE);
    }

    /** "grows by 1, but not above 2": green for long, with an empty queue, and then a vehicle comes. */
    private static void readyTimeDoesNotGrowAbove2() {
        Greenwave x = street(true, false);
        x.setFlow(0, 0, 1);
        runLong(x, 3599);
        check.is("none yet", x.come() + x.held(0), 0);
        x.run(1);
        check.is("it comes", x.come(), 1);
        check.is("and leaves at once", x.queue(0), 0);
        check.is("it is on the link", x.held(0), 1);
        for (int flow = 899; flow <= 1199; flow += 100) {
            Greenwave y = street(true, false);
            y.setFlow(0, 0, flow);
            y.setLink(0, 10, 40);
            y.run(100);
            check.is("none of " + flow + " has to wait", y.queue(0), 0);
            check.is("all are on the link", y.held(0), y.come());
        }
    }

    /** "otherwise it becomes 0": ready in the last second of a green, the next green begins anew. */
    private static void readyTimeEndsWithTheGreen() {
        for (int offset = 0; offset < 60; offset++) {
            Greenwave x = Corridors.made(2, 60);
            x.setFlow(0, 0, 1);
            x.setFlow(0, 3, 8);
            x.setOffset(0, offset);
            check.is("green: 41 * 1 / 9, and 1", x.green(0, 0), 10);
            runLong(x, 3600);
            int since = (3599 - offset + 60) % 60;
            boolean isReady = since >= 1 && since < 10;
            check.is("comes in " + since + " of the cycle", x.held(0), isReady ? 1 : 0);
            int red = since == 0 ? 0 : isReady ? 0 : 60 - since;
            if (red > 0) {
                x.run(red);
            }
            check.is("not in the first second of green", x.held(0), isReady ? 1 : 0);
            x.run(1);
            check.is("but in the second one", x.held(0), 1);
        }
    }

    /** Blocked vehicles do not change the ready time: it leaves as soon as there is room. */
    private static void readyTimeStaysWhileBlocked() {
        Greenwave x = Corridors.made(2, 60);
        x.setPhases(0, 3, 0, 0, 0);
        x.setFlow(0, 0, 1800);
        x.setLink(0, 1, 1);
        x.setOffset(1, 30);
        x.run(31);
        check.is("the seconds 0 to 30: one waits at 1", x.held(0), 1);
        check.is("14 came behind it", x.queue(0), 14);
        check.is("31: it leaves, 0 saw it there", x.run(1), 1);
        check.is("one more came", x.queue(0), 15);
        check.is("32: there is room", x.run(1), 0);
        check.is("one leaves at once", x.queue(0), 14);
        check.is("33: it comes to 1", x.run(1), 1);
    }

    // ---- links

    /** "it comes to the end of the link as many seconds later as the link takes", 1 to 60 */
    private static void linkTakesItsSeconds() {
        for (int seconds = 1; seconds <= 60; seconds++) {
            Greenwave x = street(true, false);
            x.setFlow(0, 0, 1800);
            x.setLink(0, seconds, 1);
            x.run(1);
            check.is("none in the second 0", x.held(0), 0);
            x.run(seconds);
            check.is("left in the second 1", x.held(0), 1);
            check.is("not yet at the end", x.queue(1), 0);
            x.run(1);
            check.is("at the end", x.queue(1), 1);
            check.is("still on the link", x.held(0), 1);
            Greenwave y = street(true, true);
            y.setFlow(0, 0, 1800);
            y.setLink(0, seconds, 40);
            check.is("not through yet", y.run(seconds + 1), 0);
            check.is("through in the second in which it comes to the end", y.run(1), 1);
        }
    }

    /** "or the link behind it holds fewer vehicles than its room", 1 to 40; one leaves in 1, 3, 5 and so on. */
    private static void linkHoldsItsRoom() {
        for (int room = 1; room <= 40; room++) {
            Greenwave x = street(true, false);
            x.setFlow(0, 0, 1800);
            x.setLink(0, 1, room);
            if (room > 1) {
                x.run(2 * room - 2);
            }
            check.is("one less than the room", x.held(0), room - 1);
            x.run(1);
            check.is("still one less", x.held(0), room - 1);
            x.run(1);
            check.is("the room", x.held(0), room);
            check.is("none waits", x.queue(0), 0);
            x.run(1);
            check.is("all at the end", x.queue(1), room);
            x.run(1);
            check.is("no more than the room", x.held(0), room);
            check.is("one waits", x.queue(0), 1);
            x.run(100);
            check.is("still no more", x.held(0), room);
            check.is("all wait at the end", x.queue(1), room);
            check.is("all others wait", x.queue(0), x.come() - room);
        }
    }

    /** "its room is 20 at first" */
    private static void linkHoldsItsRoomAtFirst() {
        for (int junctions = 2; junctions <= 5; junctions++) {
            Greenwave x = Corridors.made(junctions, 60);
            for (int k = 0; k < junctions; k++) {
                x.setPhases(k, k < junctions - 1 ? 3 : 12, 0, 0, 0);
            }
            x.setFlow(0, 0, 1800);
            x.run(600);
            for (int k = 0; k < junctions - 1; k++) {
                check.is("the room of " + k, x.held(k), 20);
                check.is("the queue at its end", x.queue(k + 1), 20);
            }
            check.is("all others", x.queue(0), 300 - 20 * (junctions - 1));
        }
    }

    /** "A link holds the vehicles that are on their way on it, and those in the queue at its end" */
    private static void linkHoldsThoseOnTheirWay() {
        Greenwave x = street(true, false);
        x.setFlow(0, 0, 1800);
        x.setLink(0, 4, 3);
        int[] held = {0, 1, 1, 2, 2, 3, 3, 3, 3, 3, 3, 3};
        int[] atItsEnd = {0, 0, 0, 0, 0, 1, 1, 2, 2, 3, 3, 3};
        int[] ahead = {0, 0, 0, 0, 0, 0, 0, 1, 1, 2, 2, 3};
        for (int second = 0; second < held.length; second++) {
            x.run(1);
            check.is("held in " + second, x.held(0), held[second]);
            check.is("at its end in " + second, x.queue(1), atItsEnd[second]);
            check.is("ahead in " + second, x.queue(0), ahead[second]);
        }
        Greenwave y = street(true, false);
        y.setFlow(0, 0, 1800);
        y.setLink(0, 60, 3);
        y.run(60);
        check.is("all on their way", y.held(0), 3);
        check.is("none at the end", y.queue(1), 0);
        check.is("they block, too", y.queue(0), 27);
    }

    /** "for each junction, by rising numbers": 0 looks at the link before 1 lets a vehicle through. */
    private static void linkHasRoomAfterItsSecond() {
        Greenwave x = street(true, true);
        x.setFlow(0, 0, 1800);
        x.setLink(0, 2, 1);
        x.run(2);
        check.is("one left in 1", x.held(0), 1);
        check.is("2", x.run(1), 0);
        check.is("3: it is through", x.run(1), 1);
        check.is("the next one was blocked by it", x.queue(0), 1);
        check.is("the link is empty", x.held(0), 0);
        check.is("4", x.run(1), 0);
        check.is("the next one leaves", x.queue(0), 0);
        check.is("on the link", x.held(0), 1);
        Greenwave y = street(true, true);
        y.setFlow(0, 0, 1800);
        y.setLink(0, 2, 2);
        y.run(4);
        check.is("room for 2: none is blocked", y.queue(0), 0);
    }

    /** "and the junction is the last one, or ..": there is no link behind it. */
    private static void lastJunctionIsNeverBlocked() {
        for (int junctions = 2; junctions <= 5; junctions++) {
            Greenwave x = Corridors.made(junctions, 60);
            for (int k = 0; k < junctions; k++) {
                x.setPhases(k, 3, 0, 0, 0);
            }
            for (int k = 0; k < junctions - 1; k++) {
                x.setLink(k, 1, 2);
            }
            x.setFlow(0, 0, 1800);
            check.is("none yet", x.run(junctions), 0);
            check.is("the first one", x.run(1), 1);
            check.is("one in two seconds", x.run(400), 200);
            check.is("none waits at the last one", x.queue(junctions - 1), 0);
        }
    }

    /** The links of 3 junctions: the last one is red, so the second link fills first, then the first one. */
    private static void eachJunctionHasItsOwnLink() {
        Greenwave x = street(true, true, false);
        x.setFlow(0, 0, 1800);
        x.setLink(0, 1, 5);
        x.setLink(1, 1, 3);
        x.run(8);
        check.is("left 1 in 2, 4 and 6", x.held(1), 3);
        check.is("one is blocked or on its way", x.held(0), 1);
        x.run(10);
        check.is("the second link stays full", x.held(1), 3);
        check.is("the first one is full", x.held(0), 5);
        check.is("all at its end", x.queue(1), 5);
        check.is("9 have come", x.come(), 9);
        check.is("one waits", x.queue(0), 1);
    }

    // ---- promise 21

    /** "the phase in whose green the second of the clock lies": 0 for 26 seconds, 1 for 28 */
    private static void phaseNowHasEdges() {
        for (int offset = 0; offset < 60; offset++) {
            Greenwave x = new Greenwave();
            x.setOffset(1, offset);
            for (int second = 0; second < 125; second++) {
                check.is("in " + second, x.phaseNow(0), phaseIn(second % 60));
                check.is("in " + second + " behind " + offset, x.phaseNow(1), phaseIn((second - offset + 60) % 60));
                x.run(1);
            }
        }
    }

    private static int phaseIn(int since) {
        return since < 26 ? 0 : since >= 29 && since < 57 ? 1 : NONE;
    }

    // ---- promise 2

    /** "Begins with another corridor, also when seconds have run; all else is as at first." */
    private static void beginForgetsAll() {
        for (int seconds = 1; seconds <= 200; seconds += 7) {
            for (int junctions = 2; junctions <= 5; junctions++) {
                Greenwave x = busy();
                x.setConflict(0, 0, 2, 7);
                x.setConflict(1, 2, 1, NONE);
                x.run(seconds);
                x.callBus(1, 0);
                x.callBus(0, 2);
                x.run(3);
                x.begin(junctions, 47);
                check.same("as in a new one", Check.stateOf(x), Check.stateOf(Corridors.made(junctions, 47)));
            }
        }
    }

    /** Fewer junctions and then more: those that come again are as at first, too. */
    private static void beginForgetsMoreJunctions() {
        Greenwave x = Corridors.made(5, 60);
        for (int k = 0; k < 5; k++) {
            x.setPhases(k, 1, 2, 8, 4);
            x.setFlow(k, 2, 300);
            x.setOffset(k, 50);
        }
        x.setLink(3, 1, 1);
        x.begin(2, 30);
        x.setOffset(1, 20);
        x.begin(5, 60);
        check.same("as in a new one", Check.stateOf(x), Check.stateOf(Corridors.made(5, 60)));
    }
}
