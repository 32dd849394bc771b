import java.util.ArrayList;
import java.util.HashMap;
import java.util.List;
import java.util.Map;

/**
 * The document once more, written down as slowly and plainly as it can be, to compare with: no
 * bits, no rows that are kept up to date, each second looked up by walking along the phases.
 */
final class Model {
    private static final int NONE = -1;

    private int junctions;
    private int cycle;
    private int[][][] clearance;
    private List<List<List<Integer>>> phases;
    private int[][] flow;
    private int[] seconds;
    private int[] room;
    private int[] offset;

    private boolean begun;
    private int clock;
    private int arrivals;
    private int come;
    private int through;
    private int[] queue;
    private int[] ready;
    private List<List<Integer>> ends;
    private List<Map<Integer, int[]>> changed;

    Model() {
        begin(2, 60);
    }

    void begin(int newJunctions, int newCycle) {
        if (newJunctions < 2 || newJunctions > 5 || newCycle < 30 || newCycle > 90) {
            throw new IllegalArgumentException();
        }
        junctions = newJunctions;
        cycle = newCycle;
        clearance = new int[junctions][4][4];
        phases = new ArrayList<>();
        flow = new int[junctions][4];
        seconds = new int[junctions];
        room = new int[junctions];
        offset = new int[junctions];
        begun = false;
        clock = 0;
        arrivals = 0;
        come = 0;
        through = 0;
        queue = new int[junctions];
        ready = new int[junctions];
        ends = new ArrayList<>();
        changed = new ArrayList<>();
        for (int k = 0; k < junctions; k++) {
            for (int m = 0; m < 4; m++) {
                for (int o = 0; o < 4; o++) {
                    clearance[k][m][o] = (m < 2) == (o < 2) ? NONE : 3;
                }
            }
            phases.add(List.of(List.of(0, 1), List.of(2, 3)));
            seconds[k] = 10;
            room[k] = 20;
            ends.add(new ArrayList<>());
            changed.add(new HashMap<>());
        }
    }

    private void needJunction(int junction) {
        if (junction < 0 || junction >= junctions) {
            throw new IndexOutOfBoundsException();
        }
    }

    private void needMovement(int movement) {
        if (movement < 0 || movement > 3) {
            throw new IndexOutOfBoundsException();
        }
    }

    private void needPlan(int junction) {
        if (leftOf(junction) < 0) {
            throw new IllegalStateException();
        }
    }

    private void needAllPlans() {
        for (int k = 0; k < junctions; k++) {
            needPlan(k);
        }
    }

    private void needSettingUp() {
        if (begun) {
            throw new IllegalStateException();
        }
    }

    int setConflict(int junction, int movement, int other, int newClearance) {
        needJunction(junction);
        needMovement(movement);
        needMovement(other);
        if (movement == other || newClearance < -1 || newClearance > 9) {
            throw new IllegalArgumentException();
        }
        needSettingUp();
        for (List<Integer> phase : phases.get(junction)) {
            if (newClearance != NONE && phase.contains(movement) && phase.contains(other)) {
                throw new IllegalStateException();
            }
        }
        int before = clearance[junction][movement][other];
        clearance[junction][movement][other] = newClearance;
        clearance[junction][other][movement] = newClearance;
        return before;
    }

    int setPhases(int junction, int first, int second, int third, int fourth) {
        needJunction(junction);
        int[] sets = {first, second, third, fourth};
        for (int i = 0; i < 4; i++) {
            boolean mayBeNone = i > 0;
            if (sets[i] < (mayBeNone ? 0 : 1) || sets[i] > 15) {
                throw new IllegalArgumentException();
            }
            if (i > 1 && sets[i - 1] == 0 && sets[i] != 0) {
                throw new IllegalArgumentException();
            }
        }
        needSettingUp();
        List<List<Integer>> made = new ArrayList<>();
        for (int set : sets) {
            List<Integer> phase = new ArrayList<>();
            for (int m = 0; m < 4; m++) {
                if ((set / (int) Math.pow(2, m)) % 2 == 1) {
                    phase.add(m);
                }
            }
            for (int m : phase) {
                for (int o : phase) {
                    if (m != o && clearance[junction][m][o] != NONE) {
                        throw new IllegalStateException();
                    }
                }
            }
            if (!phase.isEmpty()) {
                made.add(phase);
            }
        }
        phases.set(junction, made);
        return made.size();
    }

    int setFlow(int junction, int movement, int newFlow) {
        needJunction(junction);
        needMovement(movement);
        if (newFlow < 0 || newFlow > 1800) {
            throw new IllegalArgumentException();
        }
        needSettingUp();
        int before = flow[junction][movement];
        flow[junction][movement] = newFlow;
        return before;
    }

    void setLink(int junction, int newSeconds, int newRoom) {
        needJunction(junction);
        needJunction(junction + 1);
        if (newSeconds < 1 || newSeconds > 60 || newRoom < 1 || newRoom > 40) {
            throw new IllegalArgumentException();
        }
        needSettingUp();
        seconds[junction] = newSeconds;
        room[junction] = newRoom;
    }

    int setOffset(int junction, int newOffset) {
        needJunction(junction);
        if (newOffset < 0 || newOffset >= cycle) {
            throw new IllegalArgumentException();
        }
        needSettingUp();
        int before = offset[junction];
        offset[junction] = newOffset;
        return before;
    }

    int improve() {
        needAllPlans();
        needSettingUp();
        for (int round = 1; round <= 10; round++) {
            boolean changes = false;
            for (int k = 1; k < junctions; k++) {
                int before = offset[k];
                int best = -1;
                int most = -1;
                for (int o = 0; o < cycle; o++) {
                    offset[k] = o;
                    int both = bothBands();
                    if (both > most) {
                        most = both;
                        best = o;
                    }
                }
                offset[k] = best;
                if (best != before) {
                    changes = true;
                }
            }
            if (!changes) {
                break;
            }
        }
        return bothBands();
    }

    int junctions() {
        return junctions;
    }

    boolean hasPlan(int junction) {
        needJunction(junction);
        return leftOf(junction) >= 0;
    }

    private List<Integer> phaseOf(int junction, int phase) {
        return phases.get(junction).get(phase % phases.get(junction).size());
    }

    private int leastOf(int junction, int phase) {
        return phaseOf(junction, phase).contains(3) ? 8 : 5;
    }

    private int clearingOf(int junction, int phase) {
        int greatest = 0;
        for (int m : phaseOf(junction, phase)) {
            for (int o : phaseOf(junction, phase + 1)) {
                greatest = Math.max(greatest, clearance[junction][m][o]);
            }
        }
        return greatest;
    }

    private int leftOf(int junction) {
        int left = cycle;
        for (int p = 0; p < phases.get(junction).size(); p++) {
            left -= leastOf(junction, p) + clearingOf(junction, p);
        }
        return left;
    }

    private int weightOf(int junction, int phase) {
        int weight = 0;
        for (int m : phaseOf(junction, phase)) {
            weight = Math.max(weight, flow[junction][m]);
        }
        return weight;
    }

    private int[] greensOf(int junction) {
        int count = phases.get(junction).size();
        int left = leftOf(junction);
        int sum = 0;
        for (int p = 0; p < count; p++) {
            sum += weightOf(junction, p);
        }
        int[] greens = new int[count];
        int used = 0;
        for (int p = 0; p < count; p++) {
            int more = sum == 0 ? left / count : left * weightOf(junction, p) / sum;
            greens[p] = leastOf(junction, p) + more;
            used += more;
        }
        for (int p = 0; used < left; p = (p + 1) % count) {
            greens[p]++;
            used++;
        }
        return greens;
    }

    private void needPhase(int junction, int phase) {
        needJunction(junction);
        if (phase < 0 || phase >= phases.get(junction).size()) {
            throw new IndexOutOfBoundsException();
        }
    }

    int green(int junction, int phase) {
        needPhase(junction, phase);
        needPlan(junction);
        return greensOf(junction)[phase];
    }

    int clearing(int junction, int phase) {
        needPhase(junction, phase);
        return clearingOf(junction, phase);
    }

    int offset(int junction) {
        needJunction(junction);
        return offset[junction];
    }

    /** The phase in whose green the second of a cycle lies, if the greens are these. */
    private int phaseAt(int junction, int[] greens, int secondOfCycle) {
        int begin = 0;
        for (int p = 0; p < greens.length; p++) {
            if (secondOfCycle >= begin && secondOfCycle < begin + greens[p]) {
                return p;
            }
            begin += greens[p] + clearingOf(junction, p);
        }
        return NONE;
    }

    private int secondOfCycle(int junction, int second) {
        int rest = second - offset[junction];
        while (rest < 0) {
            rest += cycle;
        }
        return rest % cycle;
    }

    private boolean isPlannedGreen(int junction, int movement, int second) {
        return isGreenBy(greensOf(junction), junction, movement, second);
    }

    private boolean isGreenBy(int[] greens, int junction, int movement, int second) {
        int phase = phaseAt(junction, greens, secondOfCycle(junction, second));
        return phase != NONE && phaseOf(junction, phase).contains(movement);
    }

    boolean isGreen(int junction, int movement, int second) {
        needJunction(junction);
        needMovement(movement);
        if (second < 0 || second > 100000) {
            throw new IllegalArgumentException();
        }
        needPlan(junction);
        return isPlannedGreen(junction, movement, second);
    }

    int breaches(int junction) {
        needJunction(junction);
        needPlan(junction);
        int count = 0;
        for (int second = 0; second < cycle; second++) {
            boolean broken = false;
            for (int m = 0; m < 4; m++) {
                for (int o = 0; o < 4; o++) {
                    int apart = clearance[junction][m][o];
                    if (m == o || apart == NONE || !isPlannedGreen(junction, m, second)) {
                        continue;
                    }
                    for (int s = second; s <= second + apart; s++) {
                        broken = broken || isPlannedGreen(junction, o, s);
                    }
                }
            }
            if (broken) {
                count++;
            }
        }
        return count;
    }

    /** For each junction whether a movement is green in each second of the cycle with no offset. */
    private boolean[][] greensWithoutOffset(int movement) {
        boolean[][] rows = new boolean[junctions][cycle];
        for (int k = 0; k < junctions; k++) {
            int[] greens = greensOf(k);
            for (int s = 0; s < cycle; s++) {
                int phase = phaseAt(k, greens, s);
                rows[k][s] = phase != NONE && phaseOf(k, phase).contains(movement);
            }
        }
        return rows;
    }

    private int bandOf(boolean isForward) {
        boolean[][] rows = greensWithoutOffset(isForward ? 0 : 1);
        int count = 0;
        for (int s = 0; s < cycle; s++) {
            boolean free = true;
            int at = s;
            for (int i = 0; i < junctions; i++) {
                int k = isForward ? i : junctions - 1 - i;
                if (i > 0) {
                    at += isForward ? seconds[k - 1] : seconds[k];
                }
                free = free && rows[k][secondOfCycle(k, at)];
            }
            if (free) {
                count++;
            }
        }
        return count;
    }

    private int bothBands() {
        return bandOf(true) + bandOf(false);
    }

    int band(boolean isForward) {
        needAllPlans();
        return bandOf(isForward);
    }

    int bestByAll() {
        needAllPlans();
        if (junctions > 3) {
            throw new IllegalStateException();
        }
        int[] before = offset.clone();
        int best = 0;
        for (int one = 0; one < cycle; one++) {
            offset[1] = one;
            for (int two = 0; two < (junctions == 3 ? cycle : 1); two++) {
                if (junctions == 3) {
                    offset[2] = two;
                }
                best = Math.max(best, bothBands());
            }
        }
        offset = before;
        return best;
    }

    private int cycleOf(int junction, int second) {
        return Math.floorDiv(second - offset[junction], cycle);
    }

    private int[] greensNow(int junction) {
        int[] other = changed.get(junction).get(cycleOf(junction, clock));
        return other == null ? greensOf(junction) : other;
    }

    int run(int howMany) {
        if (howMany < 1 || howMany > 600) {
            throw new IllegalArgumentException();
        }
        needAllPlans();
        if (clock + howMany > 7200) {
            throw new IllegalStateException();
        }
        begun = true;
        int before = through;
        for (int i = 0; i < howMany; i++) {
            for (int k = 0; k < junctions; k++) {
                runJunction(k);
            }
            clock++;
        }
        return through - before;
    }

    private void runJunction(int k) {
        if (k > 0) {
            List<Integer> onTheirWay = ends.get(k - 1);
            while (onTheirWay.remove((Integer) clock)) {
                queue[k]++;
            }
        } else {
            arrivals += flow[0][0];
            if (arrivals >= 3600) {
                arrivals -= 3600;
                queue[0]++;
                come++;
            }
        }
        if (isGreenBy(greensNow(k), k, 0, clock)) {
            ready[k] = ready[k] >= 2 ? 2 : ready[k] + 1;
        } else {
            ready[k] = 0;
        }
        boolean isLast = k == junctions - 1;
        if (ready[k] == 2 && queue[k] > 0 && (isLast || heldBy(k) < room[k])) {
            queue[k]--;
            ready[k] = 0;
            if (isLast) {
                through++;
            } else {
                ends.get(k).add(clock + seconds[k]);
            }
        }
    }

    int callBus(int junction, int movement) {
        needJunction(junction);
        needMovement(movement);
        needAllPlans();
        int p = NONE;
        for (int i = phases.get(junction).size() - 1; i >= 0; i--) {
            if (phaseOf(junction, i).contains(movement)) {
                p = i;
            }
        }
        int thisCycle = cycleOf(junction, clock);
        if (p == NONE || changed.get(junction).containsKey(thisCycle)) {
            throw new IllegalStateException();
        }
        begun = true;
        int[] greens = greensOf(junction);
        int c = phaseAt(junction, greens, secondOfCycle(junction, clock));
        int n = 0;
        if (c == p && p < greens.length - 1) {
            n = Math.min(5, greens[p + 1] - leastOf(junction, p + 1));
            greens[p] += n;
            greens[p + 1] -= n;
        } else if (c != NONE && p > c) {
            int behind = 0;
            while (phaseAt(junction, greens, secondOfCycle(junction, clock) + behind + 1) == c) {
                behind++;
            }
            n = Math.min(5, Math.min(behind, greens[c] - leastOf(junction, c)));
            greens[c] -= n;
            greens[p] += n;
        }
        changed.get(junction).put(thisCycle, greens);
        return n;
    }

    int clock() {
        return clock;
    }

    int phaseNow(int junction) {
        needJunction(junction);
        needPlan(junction);
        return phaseAt(junction, greensNow(junction), secondOfCycle(junction, clock));
    }

    int queue(int junction) {
        needJunction(junction);
        return queue[junction];
    }

    private int heldBy(int junction) {
        return ends.get(junction).size() + queue[junction + 1];
    }

    int held(int junction) {
        needJunction(junction);
        needJunction(junction + 1);
        return heldBy(junction);
    }

    int come() {
        return come;
    }

    int through() {
        return through;
    }
}
