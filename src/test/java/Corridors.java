/** Corridors that several tests begin with. */
final class Corridors {
    private static final int NONE = Greenwave.NONE;

    private Corridors() {
    }

    static Greenwave made(int junctions, int cycle) {
        Greenwave x = new Greenwave();
        x.begin(junctions, cycle);
        return x;
    }

    static Greenwave ran(int seconds) {
        Greenwave x = new Greenwave();
        x.run(seconds);
        return x;
    }

    static Greenwave called() {
        Greenwave x = new Greenwave();
        x.callBus(0, 0);
        return x;
    }

    static Greenwave withoutConflicts(int junctions, int cycle) {
        Greenwave x = made(junctions, cycle);
        for (int k = 0; k < junctions; k++) {
            for (int m = 0; m < 2; m++) {
                x.setConflict(k, m, 2, NONE);
                x.setConflict(k, m, 3, NONE);
            }
        }
        return x;
    }

    /** One junction has no plan: 5 + 8 + 9 + 9 seconds do not fit into 30. */
    static Greenwave planlessAt(int junction, int junctions) {
        Greenwave x = made(junctions, 30);
        x.setConflict(junction, 0, 2, 9);
        return x;
    }

    /** The last junction has no plan. */
    static Greenwave planless(int junctions) {
        return planlessAt(junctions - 1, junctions);
    }

    /** The phases of a junction in the next seconds, each with how long it lasts; "-" is a clearing. */
    static String phases(Greenwave x, int junction, int seconds) {
        StringBuilder text = new StringBuilder();
        int before = x.phaseNow(junction);
        int length = 0;
        for (int s = 0; s < seconds; s++) {
            int now = x.phaseNow(junction);
            if (now != before) {
                text.append(nameOf(before)).append(':').append(length).append(' ');
                before = now;
                length = 0;
            }
            length++;
            x.run(1);
        }
        return text.append(nameOf(before)).append(':').append(length).toString();
    }

    private static String nameOf(int phase) {
        return phase == NONE ? "-" : Integer.toString(phase);
    }
}
