import java.util.ArrayList;
import java.util.List;

/**
 * The document once more, as plainly as can be: one vector, one line, one fault at a time. It shares no
 * thought with the program, so that a test may compare the two.
 */
final class PlainModel {
    private static final int NONE = -1;
    private static final int OPEN = 2;

    /** Of each line: its kind (NONE for a source) and then the lines that its pins read. */
    private final List<int[]> gates = new ArrayList<>();
    private final List<Integer> sources = new ArrayList<>();
    private final List<Integer> flops = new ArrayList<>();
    private final int[] data = new int[26];
    private final List<Integer> outputs = new ArrayList<>();
    private final List<int[]> log = new ArrayList<>();
    /** By fault + 1 and vector. This and the sites are asked for so often that they are kept until a change. */
    private int[][] responses = null;
    private List<int[]> sites = null;

    void clear() {
        gates.clear();
        sources.clear();
        flops.clear();
        outputs.clear();
        changed();
    }

    private void changed() {
        log.clear();
        responses = null;
        sites = null;
    }

    int source(boolean flop) {
        if (sources.size() == 6 || gates.size() == 26) {
            throw new IllegalStateException();
        }
        int line = gates.size();
        gates.add(new int[] {NONE});
        sources.add(line);
        if (flop) {
            flops.add(line);
            data[line] = NONE;
        }
        changed();
        return line;
    }

    int gate(int kind, int a, int b, int c) {
        if (kind < 0 || kind > 5 || a == NONE || b == NONE && c != NONE) {
            throw new IllegalArgumentException();
        }
        if (noLine(a) || b != NONE && noLine(b) || c != NONE && noLine(c)) {
            throw new IndexOutOfBoundsException();
        }
        if (gates.size() == 26) {
            throw new IllegalStateException();
        }
        gates.add(b == NONE ? new int[] {kind, a} : c == NONE ? new int[] {kind, a, b} : new int[] {kind, a, b, c});
        changed();
        return gates.size() - 1;
    }

    private boolean noLine(int line) {
        return line < 0 || line >= gates.size();
    }

    private boolean noVector(int vector) {
        return vector < 0 || vector >= 1 << sources.size();
    }

    private boolean noFault(int fault) {
        return fault < 0 || fault >= 2 * sites().size();
    }

    int output(int line) {
        if (noLine(line)) {
            throw new IndexOutOfBoundsException();
        }
        if (outputs.contains(line) || outputs.size() == 6) {
            throw new IllegalStateException();
        }
        outputs.add(line);
        changed();
        return outputs.size();
    }

    void data(int flop, int line) {
        if (noLine(flop) || noLine(line)) {
            throw new IndexOutOfBoundsException();
        }
        if (!flops.contains(flop)) {
            throw new IllegalArgumentException();
        }
        data[flop] = line;
        changed();
    }

    private List<Integer> observed() {
        List<Integer> all = new ArrayList<>(outputs);
        for (int flop : flops) {
            if (data[flop] != NONE) {
                all.add(data[flop]);
            }
        }
        return all;
    }

    /** Line and pin of each site. */
    private List<int[]> sites() {
        if (sites == null) {
            sites = gatherSites();
        }
        return sites;
    }

    private List<int[]> gatherSites() {
        List<int[]> all = new ArrayList<>();
        for (int line = 0; line < gates.size(); line++) {
            all.add(new int[] {line, NONE});
        }
        for (int line = 0; line < gates.size(); line++) {
            for (int pin = 0; pin < gates.get(line).length - 1; pin++) {
                all.add(new int[] {line, pin});
            }
        }
        return all;
    }

    int count(int what) {
        int found = 0;
        switch (what) {
            case 0:
                return gates.size();
            case 1:
                return sources.size();
            case 2:
                return observed().size();
            case 3:
                return 2 * sites().size();
            case 4:
                for (int fault = 0; fault < count(3); fault++) {
                    found += least(fault) == NONE ? 0 : 1;
                }
                return found;
            case 5:
                for (int fault = 0; fault < count(3); fault++) {
                    found += alike(fault) == fault ? 1 : 0;
                }
                return found;
            default:
                throw new IllegalArgumentException();
        }
    }

    /** The states of all lines; the state of a source is given. */
    private int[] states(int[] ofSources, int fault) {
        int[] site = fault == NONE ? new int[] {NONE, NONE} : sites().get(fault / 2);
        int[] states = new int[gates.size()];
        for (int line = 0; line < gates.size(); line++) {
            int[] gate = gates.get(line);
            if (gate[0] == NONE) {
                states[line] = ofSources[sources.indexOf(line)];
            } else {
                int[] pins = new int[gate.length - 1];
                for (int pin = 0; pin < pins.length; pin++) {
                    boolean stuck = site[0] == line && site[1] == pin;
                    pins[pin] = stuck ? fault % 2 : states[gate[pin + 1]];
                }
                states[line] = made(gate[0], pins);
            }
            if (site[0] == line && site[1] == NONE) {
                states[line] = fault % 2;
            }
        }
        return states;
    }

    private static int made(int kind, int[] pins) {
        int[] among = new int[3];
        for (int pin : pins) {
            among[pin]++;
        }
        int plain;
        if (kind < 4 && among[kind < 2 ? 0 : 1] > 0) {
            plain = kind < 2 ? 0 : 1;
        } else if (among[OPEN] > 0) {
            return OPEN;
        } else {
            plain = kind < 4 ? (kind < 2 ? 1 : 0) : among[1] % 2;
        }
        return kind % 2 == 0 ? plain : 1 - plain;
    }

    private int[] stateOfSources(int open, int ones) {
        int[] states = new int[sources.size()];
        for (int i = 0; i < states.length; i++) {
            states[i] = (open >> i) % 2 == 1 ? OPEN : (ones >> i) % 2;
        }
        return states;
    }

    int value(int vector, int line, int fault) {
        if (noLine(line) || noVector(vector) || fault != NONE && noFault(fault)) {
            throw new IndexOutOfBoundsException();
        }
        return states(stateOfSources(0, vector), fault)[line];
    }

    int response(int vector, int fault) {
        if (noVector(vector) || fault != NONE && noFault(fault)) {
            throw new IndexOutOfBoundsException();
        }
        if (responses == null) {
            responses = new int[2 * sites().size() + 1][1 << sources.size()];
            for (int f = NONE; f < 2 * sites().size(); f++) {
                for (int v = 0; v < 1 << sources.size(); v++) {
                    responses[f + 1][v] = worked(v, f);
                }
            }
        }
        return responses[fault + 1][vector];
    }

    private int worked(int vector, int fault) {
        int[] states = states(stateOfSources(0, vector), fault);
        int sum = 0;
        int weight = 1;
        for (int line : observed()) {
            sum += weight * states[line];
            weight *= 2;
        }
        return sum;
    }

    int fault(int line, int pin, int v) {
        List<int[]> all = sites();
        for (int site = 0; site < all.size(); site++) {
            if (all.get(site)[0] == line && all.get(site)[1] == pin && (v == 0 || v == 1)) {
                return 2 * site + v;
            }
        }
        return NONE;
    }

    int faultAt(int fault, int what) {
        if (noFault(fault)) {
            throw new IndexOutOfBoundsException();
        }
        if (what < 0 || what > 2) {
            throw new IllegalArgumentException();
        }
        return what == 2 ? fault % 2 : sites().get(fault / 2)[what];
    }

    private boolean vectorShows(int vector, int fault) {
        return response(vector, fault) != response(vector, NONE);
    }

    int least(int fault) {
        if (noFault(fault)) {
            throw new IndexOutOfBoundsException();
        }
        for (int vector = 0; vector < 1 << sources.size(); vector++) {
            if (vectorShows(vector, fault)) {
                return vector;
            }
        }
        return NONE;
    }

    long showing(int fault) {
        if (noFault(fault)) {
            throw new IndexOutOfBoundsException();
        }
        long all = 0;
        for (int vector = 0; vector < 1 << sources.size(); vector++) {
            all += vectorShows(vector, fault) ? 1L << vector : 0;
        }
        return all;
    }

    int alike(int fault) {
        if (noFault(fault)) {
            throw new IndexOutOfBoundsException();
        }
        for (int before = 0; before < fault; before++) {
            boolean same = true;
            for (int vector = 0; same && vector < 1 << sources.size(); vector++) {
                same = response(vector, before) == response(vector, fault);
            }
            if (same) {
                return before;
            }
        }
        return fault;
    }

    int ternary(int open, int ones, int line, int fault) {
        if (noLine(line) || fault != NONE && noFault(fault)) {
            throw new IndexOutOfBoundsException();
        }
        if (noVector(open) || noVector(ones) || (open & ones) != 0) {
            throw new IllegalArgumentException();
        }
        return states(stateOfSources(open, ones), fault)[line];
    }

    int cube(int fault) {
        int ones = least(fault);
        if (ones == NONE) {
            return NONE;
        }
        int open = 0;
        for (int i = 0; i < sources.size(); i++) {
            int bit = 1 << i;
            if (cubeShows(open + bit, ones - (ones & bit), fault)) {
                open += bit;
                ones -= ones & bit;
            }
        }
        return 64 * open + ones;
    }

    private boolean cubeShows(int open, int ones, int fault) {
        int[] sound = states(stateOfSources(open, ones), NONE);
        int[] faulty = states(stateOfSources(open, ones), fault);
        for (int line : observed()) {
            if (sound[line] != OPEN && faulty[line] == 1 - sound[line]) {
                return true;
            }
        }
        return false;
    }

    int packed(int k) {
        List<Integer> set = new ArrayList<>();
        for (int fault = 0; fault < count(3); fault++) {
            if (least(fault) != NONE && !anyShows(set, fault)) {
                set.add(least(fault));
            }
        }
        for (int i = set.size() - 1; i >= 0; i--) {
            List<Integer> without = new ArrayList<>(set);
            without.remove(i);
            boolean all = true;
            for (int fault = 0; all && fault < count(3); fault++) {
                all = least(fault) == NONE || anyShows(without, fault);
            }
            if (all) {
                set = without;
            }
        }
        return k >= 0 && k < set.size() ? set.get(k) : NONE;
    }

    private boolean anyShows(List<Integer> set, int fault) {
        for (int vector : set) {
            if (vectorShows(vector, fault)) {
                return true;
            }
        }
        return false;
    }

    int log(int vector, int response) {
        if (noVector(vector)) {
            throw new IndexOutOfBoundsException();
        }
        if (response < 0 || response > 4095) {
            throw new IllegalArgumentException();
        }
        if (log.size() == 16) {
            throw new IllegalStateException();
        }
        log.add(new int[] {vector, response});
        return log.size();
    }

    int forget() {
        int size = log.size();
        log.clear();
        return size;
    }

    int explains(int k) {
        if (k == NONE) {
            return agrees(NONE) ? 1 : 0;
        }
        List<Integer> all = new ArrayList<>();
        for (int fault = 0; fault < count(3); fault++) {
            if (agrees(fault)) {
                all.add(fault);
            }
        }
        return k >= 0 && k < all.size() ? all.get(k) : NONE;
    }

    private boolean agrees(int fault) {
        for (int[] row : log) {
            if (response(row[0], fault) != row[1]) {
                return false;
            }
        }
        return true;
    }
}
