import java.util.Arrays;

/**
 * A planner of signals along a corridor. What each call does, answers and throws stands in the
 * document's promises; this class checks the arguments and leaves the work to the classes inside.
 */
public final class Greenwave {
    public static final int NONE = -1;
    public static final int FORWARD = 0, BACKWARD = 1, SIDE = 2, WALKERS = 3;

    private static final int FEWEST_JUNCTIONS = 2;
    private static final int MOST_JUNCTIONS = 5;
    private static final int SHORTEST_CYCLE = 30;
    private static final int LONGEST_CYCLE = 90;
    private static final int FIRST_CYCLE = 60;
    private static final int MOVEMENTS = 4;
    private static final int MOST_PHASES = 4;
    private static final int ALL_MOVEMENTS = 15;
    private static final int MOST_CLEARANCE = 9;
    private static final int FIRST_CLEARANCE = 3;
    private static final int LEAST_GREEN = 5;
    private static final int LEAST_GREEN_FOR_WALKERS = 8;
    private static final int MOST_FLOW = 1800;
    private static final int ARRIVALS_PER_VEHICLE = 3600;
    private static final int LONGEST_LINK = 60;
    private static final int FIRST_LINK = 10;
    private static final int MOST_ROOM = 40;
    private static final int FIRST_ROOM = 20;
    private static final int READY = 2;
    private static final int MOST_FOR_BUS = 5;
    private static final int MOST_ROUNDS = 10;
    private static final int MOST_FOR_ALL_OFFSETS = 3;
    private static final int LAST_SECOND_ASKED = 100000;
    private static final int LONGEST_RUN = 600;
    private static final int LAST_CLOCK = 7200;

    private final Corridor corridor;
    private final Bands bands;
    private final Traffic traffic;

    public Greenwave() {
        corridor = new Corridor();
        bands = new Bands(corridor);
        traffic = new Traffic(corridor);
        corridor.reset(FEWEST_JUNCTIONS, FIRST_CYCLE);
    }

    // ---- setting up; not possible when a second has run, or a bus has called

    public void begin(int junctions, int cycle) throws IllegalArgumentException {
        if (isOutside(junctions, FEWEST_JUNCTIONS, MOST_JUNCTIONS)
                || isOutside(cycle, SHORTEST_CYCLE, LONGEST_CYCLE)) {
            throw new IllegalArgumentException("junctions or cycle out of range");
        }
        corridor.reset(junctions, cycle);
        traffic.reset();
    }

    public int setConflict(int junction, int movement, int other, int clearance)
            throws IndexOutOfBoundsException, IllegalArgumentException, IllegalStateException {
        Junction place = corridor.at(junction);
        checkMovement(movement);
        checkMovement(other);
        if (movement == other || isOutside(clearance, NONE, MOST_CLEARANCE)) {
            throw new IllegalArgumentException("same movements, or clearance out of range");
        }
        checkSettingUp();
        if (clearance != NONE && place.haveOnePhase(movement, other)) {
            throw new IllegalStateException("conflict in a phase");
        }
        int before = place.clearanceOf(movement, other);
        place.changeClearance(movement, other, clearance);
        return before;
    }

    public int setPhases(int junction, int first, int second, int third, int fourth)
            throws IndexOutOfBoundsException, IllegalArgumentException, IllegalStateException {
        Junction place = corridor.at(junction);
        if (isOutside(first, 1, ALL_MOVEMENTS)
                || isOutside(second, 0, ALL_MOVEMENTS)
                || isOutside(third, 0, second == 0 ? 0 : ALL_MOVEMENTS)
                || isOutside(fourth, 0, third == 0 ? 0 : ALL_MOVEMENTS)) {
            throw new IllegalArgumentException("set of movements out of range");
        }
        checkSettingUp();
        if (place.hasConflictIn(first) || place.hasConflictIn(second)
                || place.hasConflictIn(third) || place.hasConflictIn(fourth)) {
            throw new IllegalStateException("conflict in a phase");
        }
        place.changePhases(first, second, third, fourth);
        return place.phases;
    }

    public int setFlow(int junction, int movement, int flow)
            throws IndexOutOfBoundsException, IllegalArgumentException, IllegalStateException {
        Junction place = corridor.at(junction);
        checkMovement(movement);
        if (isOutside(flow, 0, MOST_FLOW)) {
            throw new IllegalArgumentException("flow out of range");
        }
        checkSettingUp();
        int before = place.flowOf(movement);
        place.changeFlow(movement, flow);
        return before;
    }

    public void setLink(int junction, int seconds, int room)
            throws IndexOutOfBoundsException, IllegalArgumentException, IllegalStateException {
        Link link = corridor.linkFrom(junction);
        if (isOutside(seconds, 1, LONGEST_LINK) || isOutside(room, 1, MOST_ROOM)) {
            throw new IllegalArgumentException("seconds or room out of range");
        }
        checkSettingUp();
        link.seconds = seconds;
        link.room = room;
    }

    public int setOffset(int junction, int offset)
            throws IndexOutOfBoundsException, IllegalArgumentException, IllegalStateException {
        Junction place = corridor.at(junction);
        if (isOutside(offset, 0, corridor.cycle - 1)) {
            throw new IllegalArgumentException("offset out of range");
        }
        checkSettingUp();
        int before = place.start;
        place.start = offset;
        return before;
    }

    public int improve() throws IllegalStateException {
        checkPlans();
        checkSettingUp();
        return bands.improveOffsets();
    }

    // ---- plans

    public int junctions() {
        return corridor.size;
    }

    public boolean hasPlan(int junction) throws IndexOutOfBoundsException {
        return corridor.at(junction).isPlanned;
    }

    public int green(int junction, int phase) throws IndexOutOfBoundsException, IllegalStateException {
        Junction place = corridor.at(junction);
        checkPhase(place, phase);
        checkPlan(place);
        return read(place.greens, phase);
    }

    public int clearing(int junction, int phase) throws IndexOutOfBoundsException {
        Junction place = corridor.at(junction);
        checkPhase(place, phase);
        return read(place.clearings, phase);
    }

    public int offset(int junction) throws IndexOutOfBoundsException {
        return corridor.at(junction).start;
    }

    public boolean isGreen(int junction, int movement, int second)
            throws IndexOutOfBoundsException, IllegalArgumentException, IllegalStateException {
        Junction place = corridor.at(junction);
        checkMovement(movement);
        if (isOutside(second, 0, LAST_SECOND_ASKED)) {
            throw new IllegalArgumentException("second out of range");
        }
        checkPlan(place);
        return place.isLit(movement, second);
    }

    public int breaches(int junction) throws IndexOutOfBoundsException, IllegalStateException {
        Junction place = corridor.at(junction);
        checkPlan(place);
        return place.countBreaches();
    }

    public int band(boolean isForward) throws IllegalStateException {
        checkPlans();
        return bands.width(isForward);
    }

    public int bestByAll() throws IllegalStateException {
        checkPlans();
        if (corridor.size > MOST_FOR_ALL_OFFSETS) {
            throw new IllegalStateException("more than 3 junctions");
        }
        return bands.bestOverAllOffsets();
    }

    // ---- running

    public int run(int seconds) throws IllegalArgumentException, IllegalStateException {
        if (isOutside(seconds, 1, LONGEST_RUN)) {
            throw new IllegalArgumentException("seconds out of range");
        }
        checkPlans();
        if (traffic.second + seconds > LAST_CLOCK) {
            throw new IllegalStateException("clock would be above 7200");
        }
        return traffic.pass(seconds);
    }

    public int callBus(int junction, int movement) throws IndexOutOfBoundsException, IllegalStateException {
        Junction place = corridor.at(junction);
        checkMovement(movement);
        checkPlans();
        if (place.lowestPhaseWith(movement) == NONE) {
            throw new IllegalStateException("no phase has the movement");
        }
        if (place.hasBusIn(traffic.second)) {
            throw new IllegalStateException("a bus has called in this cycle");
        }
        traffic.hasBegun = true;
        return place.takeBus(traffic.second, movement);
    }

    public int clock() {
        return traffic.second;
    }

    public int phaseNow(int junction) throws IndexOutOfBoundsException, IllegalStateException {
        Junction place = corridor.at(junction);
        checkPlan(place);
        return place.phaseIn(traffic.second);
    }

    public int queue(int junction) throws IndexOutOfBoundsException {
        return corridor.at(junction).waiting;
    }

    public int held(int junction) throws IndexOutOfBoundsException {
        return corridor.vehiclesOnLinkFrom(junction);
    }

    public int come() {
        return traffic.come;
    }

    public int through() {
        return traffic.through;
    }

    // ---- checks

    private void checkSettingUp() {
        if (traffic.hasBegun) {
            throw new IllegalStateException("a second has run, or a bus has called");
        }
    }

    private void checkPlans() {
        if (!corridor.isPlanned()) {
            throw new IllegalStateException("a junction has no plan");
        }
    }

    private static void checkPlan(Junction place) {
        if (!place.isPlanned) {
            throw new IllegalStateException("the junction has no plan");
        }
    }

    private static void checkPhase(Junction place, int phase) {
        if (phase < 0 || phase >= place.phases) {
            throw new IndexOutOfBoundsException("no such phase");
        }
    }

    private static void checkMovement(int movement) {
        if (movement < 0 || movement >= MOVEMENTS) {
            throw new IndexOutOfBoundsException("no such movement");
        }
    }

    private static boolean isOutside(int value, int least, int most) {
        return value < least || value > most;
    }

    // ---- rows and numbers, with every index and divisor tested

    private static int read(int[] row, int index) {
        return index >= 0 && index < row.length ? row[index] : 0;
    }

    private static void write(int[] row, int index, int value) {
        if (index >= 0 && index < row.length) {
            row[index] = value;
        }
    }

    private static int modulo(int value, int base) {
        if (base <= 0) {
            return 0;
        }
        int rest = value % base;
        return rest < 0 ? rest + base : rest;
    }

    /** Rounds down, for no value that is shared out is below 0. */
    private static int share(int value, int divisor) {
        return divisor > 0 ? value / divisor : 0;
    }

    private static boolean hasBit(int set, int movement) {
        return (set >> movement & 1) != 0;
    }

    /** The junctions, of which the first ones are used, and the cycle that they share. */
    private static final class Corridor {
        private final Junction[] all = new Junction[MOST_JUNCTIONS];
        private int size;
        private int cycle;

        Corridor() {
            for (int k = 0; k < all.length; k++) {
                all[k] = new Junction();
            }
        }

        void reset(int junctions, int seconds) {
            size = junctions;
            cycle = seconds;
            for (int k = 0; k < size; k++) {
                at(k).reset(seconds);
            }
        }

        Junction at(int junction) {
            if (junction < 0 || junction >= size || junction >= all.length || all[junction] == null) {
                throw new IndexOutOfBoundsException("no such junction");
            }
            return all[junction];
        }

        boolean isLast(int junction) {
            return junction == size - 1;
        }

        Link linkFrom(int junction) {
            Junction place = at(junction);
            if (isLast(junction)) {
                throw new IndexOutOfBoundsException("no link behind the last junction");
            }
            return place.link;
        }

        int vehiclesOnLinkFrom(int junction) {
            return linkFrom(junction).moving + at(junction + 1).waiting;
        }

        int secondsBetween(int from, int to) {
            int seconds = 0;
            for (int k = from; k < to; k++) {
                seconds += at(k).link.seconds;
            }
            return seconds;
        }

        boolean isPlanned() {
            for (int k = 0; k < size; k++) {
                if (!at(k).isPlanned) {
                    return false;
                }
            }
            return true;
        }
    }

    /** A junction: its conflicts, phases and flows, the plan that follows from them, its queue. */
    private static final class Junction {
        private final int[] clearances = new int[MOVEMENTS * MOVEMENTS];
        private final int[] sets = new int[MOST_PHASES];
        private final int[] flows = new int[MOVEMENTS];
        private final int[] greens = new int[MOST_PHASES];
        private final int[] clearings = new int[MOST_PHASES];
        // The set of green movements in each second, counted from the green of the phase 0.
        private final int[] lights = new int[LONGEST_CYCLE];
        private final Link link = new Link();
        private int phases;
        private int cycle;
        private int start;
        private boolean isPlanned;
        private int waiting;
        private int ready;
        // The last bus call alone counts: a cycle has at most one, and the clock never goes back.
        private int busCycleEnd;
        private int giver;
        private int taker;
        private int given;

        void reset(int seconds) {
            cycle = seconds;
            start = 0;
            waiting = 0;
            ready = 0;
            busCycleEnd = 0;
            giver = NONE;
            taker = NONE;
            given = 0;
            link.reset();
            Arrays.fill(flows, 0);
            Arrays.fill(clearances, NONE);
            writeClearance(FORWARD, SIDE, FIRST_CLEARANCE);
            writeClearance(FORWARD, WALKERS, FIRST_CLEARANCE);
            writeClearance(BACKWARD, SIDE, FIRST_CLEARANCE);
            writeClearance(BACKWARD, WALKERS, FIRST_CLEARANCE);
            writeSets(1 << FORWARD | 1 << BACKWARD, 1 << SIDE | 1 << WALKERS, 0, 0);
            makePlan();
        }

        // -- setting up

        int clearanceOf(int movement, int other) {
            return read(clearances, movement * MOVEMENTS + other);
        }

        private void writeClearance(int movement, int other, int clearance) {
            write(clearances, movement * MOVEMENTS + other, clearance);
            write(clearances, other * MOVEMENTS + movement, clearance);
        }

        void changeClearance(int movement, int other, int clearance) {
            writeClearance(movement, other, clearance);
            makePlan();
        }

        private void writeSets(int first, int second, int third, int fourth) {
            write(sets, 0, first);
            write(sets, 1, second);
            write(sets, 2, third);
            write(sets, 3, fourth);
            phases = second == 0 ? 1 : third == 0 ? 2 : fourth == 0 ? 3 : 4;
        }

        void changePhases(int first, int second, int third, int fourth) {
            writeSets(first, second, third, fourth);
            makePlan();
        }

        int flowOf(int movement) {
            return read(flows, movement);
        }

        void changeFlow(int movement, int flow) {
            write(flows, movement, flow);
            makePlan();
        }

        boolean haveOnePhase(int movement, int other) {
            for (int p = 0; p < phases; p++) {
                int set = read(sets, p);
                if (hasBit(set, movement) && hasBit(set, other)) {
                    return true;
                }
            }
            return false;
        }

        boolean hasConflictIn(int set) {
            return greatestClearance(set, set) != NONE;
        }

        private int greatestClearance(int set, int next) {
            int greatest = NONE;
            for (int m = 0; m < MOVEMENTS; m++) {
                for (int o = 0; o < MOVEMENTS; o++) {
                    if (hasBit(set, m) && hasBit(next, o)) {
                        greatest = Math.max(greatest, clearanceOf(m, o));
                    }
                }
            }
            return greatest;
        }

        // -- the plan

        private void makePlan() {
            int left = cycle;
            int weights = 0;
            for (int p = 0; p < phases; p++) {
                int next = p + 1 < phases ? p + 1 : 0;
                int clearing = Math.max(0, greatestClearance(read(sets, p), read(sets, next)));
                write(clearings, p, clearing);
                left -= clearing + leastGreen(p);
                weights += weightOf(p);
            }
            isPlanned = left >= 0;
            if (isPlanned) {
                shareOut(left, weights);
                drawLights();
            }
        }

        private int leastGreen(int phase) {
            return hasBit(read(sets, phase), WALKERS) ? LEAST_GREEN_FOR_WALKERS : LEAST_GREEN;
        }

        private int weightOf(int phase) {
            int weight = 0;
            for (int m = 0; m < MOVEMENTS; m++) {
                if (hasBit(read(sets, phase), m)) {
                    weight = Math.max(weight, read(flows, m));
                }
            }
            return weight;
        }

        private void shareOut(int left, int weights) {
            int remaining = left;
            for (int p = 0; p < phases; p++) {
                int more = weights == 0 ? share(left, phases) : share(left * weightOf(p), weights);
                write(greens, p, leastGreen(p) + more);
                remaining -= more;
            }
            for (int p = 0; p < phases && p < remaining; p++) {
                write(greens, p, read(greens, p) + 1);
            }
        }

        private void drawLights() {
            int second = 0;
            for (int p = 0; p < phases; p++) {
                int dark = second + read(greens, p);
                int end = dark + read(clearings, p);
                for (int s = second; s < end; s++) {
                    write(lights, s, s < dark ? read(sets, p) : 0);
                }
                second = end;
            }
        }

        boolean isLit(int movement, int second) {
            return isLitFrom(start, movement, second);
        }

        boolean isLitFrom(int offset, int movement, int second) {
            return hasBit(read(lights, modulo(second - offset, cycle)), movement);
        }

        int countBreaches() {
            int count = 0;
            for (int second = 0; second < cycle; second++) {
                if (isBreached(second)) {
                    count++;
                }
            }
            return count;
        }

        private boolean isBreached(int second) {
            for (int m = 0; m < MOVEMENTS; m++) {
                for (int o = 0; o < MOVEMENTS; o++) {
                    if (isLit(m, second) && isLitTooSoon(o, second, clearanceOf(m, o))) {
                        return true;
                    }
                }
            }
            return false;
        }

        private boolean isLitTooSoon(int movement, int second, int clearance) {
            for (int later = 0; later <= clearance; later++) {
                if (isLit(movement, second + later)) {
                    return true;
                }
            }
            return false;
        }

        // -- running

        private int placeInCycle(int second) {
            return modulo(second - start, cycle);
        }

        boolean hasBusIn(int second) {
            return second < busCycleEnd;
        }

        private int changedGreen(int phase) {
            int change = phase == taker ? given : phase == giver ? -given : 0;
            return read(greens, phase) + change;
        }

        int phaseIn(int second) {
            boolean isChanged = hasBusIn(second);
            int rest = placeInCycle(second);
            for (int p = 0; p < phases; p++) {
                int green = isChanged ? changedGreen(p) : read(greens, p);
                if (rest < green) {
                    return p;
                }
                rest -= green;
                if (rest < read(clearings, p)) {
                    return NONE;
                }
                rest -= read(clearings, p);
            }
            return NONE;
        }

        int lowestPhaseWith(int movement) {
            for (int p = 0; p < phases; p++) {
                if (hasBit(read(sets, p), movement)) {
                    return p;
                }
            }
            return NONE;
        }

        int takeBus(int second, int movement) {
            int wanted = lowestPhaseWith(movement);
            int current = phaseIn(second);
            busCycleEnd = second - placeInCycle(second) + cycle;
            giver = NONE;
            taker = wanted;
            given = 0;
            if (current == wanted && wanted + 1 < phases) {
                giver = wanted + 1;
                given = Math.min(MOST_FOR_BUS, spareGreen(giver));
            } else if (current != NONE && wanted > current) {
                giver = current;
                int behind = secondsOfGreenBehind(current, second);
                given = Math.min(MOST_FOR_BUS, Math.min(behind, spareGreen(giver)));
            }
            return given;
        }

        private int spareGreen(int phase) {
            return read(greens, phase) - leastGreen(phase);
        }

        private int secondsOfGreenBehind(int phase, int second) {
            int end = read(greens, phase);
            for (int p = 0; p < phase; p++) {
                end += read(greens, p) + read(clearings, p);
            }
            return end - 1 - placeInCycle(second);
        }

        void growReady(int second) {
            int phase = phaseIn(second);
            boolean isOpen = phase != NONE && hasBit(read(sets, phase), FORWARD);
            ready = isOpen ? Math.min(READY, ready + 1) : 0;
        }
    }

    /** The link from a junction to the next one, with the vehicles that are on their way on it. */
    private static final class Link {
        // More places than the longest link has seconds, so that no two seconds ahead share one.
        private static final int PLACES = LONGEST_LINK + 1;

        private final int[] due = new int[PLACES];
        private int seconds;
        private int room;
        private int moving;

        void reset() {
            seconds = FIRST_LINK;
            room = FIRST_ROOM;
            moving = 0;
            Arrays.fill(due, 0);
        }

        void send(int second) {
            int place = modulo(second + seconds, PLACES);
            write(due, place, read(due, place) + 1);
            moving++;
        }

        int land(int second) {
            int place = modulo(second, PLACES);
            int vehicles = read(due, place);
            write(due, place, 0);
            moving -= vehicles;
            return vehicles;
        }
    }

    /** A set of seconds of a cycle, a bit for each: 0 to 63 in low, from 64 on in high. */
    private static final class Seconds {
        private static final int BITS = 64;

        private long low;
        private long high;

        void clear() {
            low = 0;
            high = 0;
        }

        void add(int second) {
            if (second < BITS) {
                low |= 1L << second;
            } else {
                high |= 1L << (second - BITS);
            }
        }

        private void remove(int second) {
            if (second < BITS) {
                low &= ~(1L << second);
            } else {
                high &= ~(1L << (second - BITS));
            }
        }

        private boolean has(int second) {
            long bits = second < BITS ? low >>> second : high >>> (second - BITS);
            return (bits & 1) != 0;
        }

        void becomeCommon(Seconds one, Seconds other) {
            low = one.low & other.low;
            high = one.high & other.high;
        }

        int countCommon(Seconds other) {
            return Long.bitCount(low & other.low) + Long.bitCount(high & other.high);
        }

        /** Moves each second one on, and the last one of the cycle to the first. */
        void turn(int cycle) {
            long first = has(cycle - 1) ? 1 : 0;
            high = high << 1 | low >>> (BITS - 1);
            low = low << 1 | first;
            remove(cycle);
        }
    }

    /** The free seconds of both ways, at one junction or at several. */
    private static final class FreeSeconds {
        private final Seconds forward = new Seconds();
        private final Seconds backward = new Seconds();

        void clear() {
            forward.clear();
            backward.clear();
        }

        void addAll(int cycle) {
            for (int second = 0; second < cycle; second++) {
                forward.add(second);
                backward.add(second);
            }
        }

        void becomeCommon(FreeSeconds one, FreeSeconds other) {
            forward.becomeCommon(one.forward, other.forward);
            backward.becomeCommon(one.backward, other.backward);
        }

        int countCommon(FreeSeconds other) {
            return forward.countCommon(other.forward) + backward.countCommon(other.backward);
        }

        void turn(int cycle) {
            forward.turn(cycle);
            backward.turn(cycle);
        }
    }

    /**
     * The bands of both ways, and the offsets that make them great. With one second more of offset
     * the free seconds of a junction turn by one, so all offsets are tried without a plan anew.
     */
    private static final class Bands {
        private final Corridor corridor;
        private final FreeSeconds common = new FreeSeconds();
        private final FreeSeconds single = new FreeSeconds();
        private final FreeSeconds pair = new FreeSeconds();
        private final FreeSeconds third = new FreeSeconds();

        Bands(Corridor itsCorridor) {
            corridor = itsCorridor;
        }

        /** The free seconds of one junction alone, if it had this offset. */
        private void fillFrom(int junction, int offset, FreeSeconds free) {
            Junction place = corridor.at(junction);
            int ahead = corridor.secondsBetween(0, junction);
            int back = corridor.secondsBetween(junction, corridor.size - 1);
            free.clear();
            for (int second = 0; second < corridor.cycle; second++) {
                if (place.isLitFrom(offset, FORWARD, second + ahead)) {
                    free.forward.add(second);
                }
                if (place.isLitFrom(offset, BACKWARD, second + back)) {
                    free.backward.add(second);
                }
            }
        }

        /** The free seconds of all junctions but one, or of all. */
        private void fillCommon(int without) {
            common.clear();
            common.addAll(corridor.cycle);
            for (int k = 0; k < corridor.size; k++) {
                if (k != without) {
                    fillFrom(k, corridor.at(k).start, single);
                    common.becomeCommon(common, single);
                }
            }
        }

        int width(boolean isForward) {
            fillCommon(NONE);
            Seconds free = isForward ? common.forward : common.backward;
            return free.countCommon(free);
        }

        int improveOffsets() {
            boolean isChanged = true;
            for (int round = 0; round < MOST_ROUNDS && isChanged; round++) {
                isChanged = false;
                for (int k = 1; k < corridor.size; k++) {
                    isChanged |= improveOffset(k);
                }
            }
            fillCommon(NONE);
            return common.countCommon(common);
        }

        private boolean improveOffset(int junction) {
            Junction place = corridor.at(junction);
            int before = place.start;
            fillCommon(junction);
            fillFrom(junction, 0, single);
            place.start = lowestBestOffset();
            return place.start != before;
        }

        private int lowestBestOffset() {
            int lowest = 0;
            int greatest = 0;
            for (int offset = 0; offset < corridor.cycle; offset++) {
                int both = common.countCommon(single);
                if (both > greatest) {
                    greatest = both;
                    lowest = offset;
                }
                single.turn(corridor.cycle);
            }
            return lowest;
        }

        /** Leaves the turned seconds as they were, for they turn by a whole cycle. */
        private int greatestOverOffsets(FreeSeconds fixed, FreeSeconds turned) {
            int greatest = 0;
            for (int offset = 0; offset < corridor.cycle; offset++) {
                greatest = Math.max(greatest, fixed.countCommon(turned));
                turned.turn(corridor.cycle);
            }
            return greatest;
        }

        int bestOverAllOffsets() {
            fillFrom(0, corridor.at(0).start, common);
            fillFrom(1, 0, single);
            if (corridor.size == FEWEST_JUNCTIONS) {
                return greatestOverOffsets(common, single);
            }
            fillFrom(2, 0, third);
            int greatest = 0;
            for (int offset = 0; offset < corridor.cycle; offset++) {
                pair.becomeCommon(common, single);
                greatest = Math.max(greatest, greatestOverOffsets(pair, third));
                single.turn(corridor.cycle);
            }
            return greatest;
        }
    }

    /** The clock, and the vehicles that come, pass and go. */
    private static final class Traffic {
        private final Corridor corridor;
        private int second;
        private int arrivals;
        private int come;
        private int through;
        private boolean hasBegun;

        Traffic(Corridor itsCorridor) {
            corridor = itsCorridor;
        }

        void reset() {
            second = 0;
            arrivals = 0;
            come = 0;
            through = 0;
            hasBegun = false;
        }

        int pass(int seconds) {
            int before = through;
            hasBegun = true;
            for (int s = 0; s < seconds; s++) {
                passSecond();
            }
            return through - before;
        }

        private void passSecond() {
            for (int k = 0; k < corridor.size; k++) {
                Junction place = corridor.at(k);
                if (k == 0) {
                    letCome(place);
                } else {
                    place.waiting += corridor.linkFrom(k - 1).land(second);
                }
                place.growReady(second);
                if (place.ready == READY && place.waiting > 0 && hasRoomBehind(k)) {
                    letLeave(k);
                }
            }
            second++;
        }

        private void letCome(Junction place) {
            arrivals += place.flowOf(FORWARD);
            if (arrivals >= ARRIVALS_PER_VEHICLE) {
                arrivals -= ARRIVALS_PER_VEHICLE;
                place.waiting++;
                come++;
            }
        }

        private boolean hasRoomBehind(int junction) {
            return corridor.isLast(junction)
                    || corridor.vehiclesOnLinkFrom(junction) < corridor.linkFrom(junction).room;
        }

        private void letLeave(int junction) {
            Junction place = corridor.at(junction);
            place.waiting--;
            place.ready = 0;
            if (corridor.isLast(junction)) {
                through++;
            } else {
                place.link.send(second);
            }
        }
    }
}
