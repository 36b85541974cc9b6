/** A workshop for single stuck lines and pins of a small circuit of gates and flip-flops. */
public final class StuckLines {
    public static final int NONE = -1;

    private static final int MOST_LINES = 26;
    private static final int MOST_SOURCES = 6;
    private static final int MOST_OUTPUTS = 6;
    private static final int MOST_OBSERVED = MOST_OUTPUTS + MOST_SOURCES;
    private static final int MOST_PINS = 3 * MOST_LINES;
    private static final int MOST_FAULTS = 2 * (MOST_LINES + MOST_PINS);
    private static final int MOST_VECTORS = 64;
    private static final int MOST_SEEN = 16;
    private static final int RESPONSES = 1 << MOST_OBSERVED;

    private static final int KINDS = 6;
    private static final int OF_A_SOURCE = -1;
    private static final int AND_FAMILY = 0;
    private static final int OR_FAMILY = 1;

    private static final int OPEN = 2;

    /** Bit v of entry i is the value of source i in vector v. */
    private static final long[] SOURCE_IN_VECTORS = {
        0xAAAAAAAAAAAAAAAAL, 0xCCCCCCCCCCCCCCCCL, 0xF0F0F0F0F0F0F0F0L,
        0xFF00FF00FF00FF00L, 0xFFFF0000FFFF0000L, 0xFFFFFFFF00000000L
    };

    private final Circuit circuit;
    private final Signals signals;
    private final Responses responses;
    private final Cubes cubes;
    private final PackedSet packedSet;
    private final SeenLog seen;

    public StuckLines() {
        circuit = new Circuit();
        signals = new Signals(circuit);
        responses = new Responses(circuit);
        cubes = new Cubes(circuit);
        packedSet = new PackedSet(circuit, responses);
        seen = new SeenLog(responses);
    }

    public void clear() {
        circuit.removeAll();
        seen.removeAll();
    }

    public int source(boolean flop) throws IllegalStateException {
        if (circuit.sources >= MOST_SOURCES || circuit.lines >= MOST_LINES) {
            throw new IllegalStateException("no room for a source");
        }
        seen.removeAll();
        return circuit.addSource(flop);
    }

    public int gate(int kind, int a, int b, int c)
            throws IllegalArgumentException, IndexOutOfBoundsException, IllegalStateException {
        if (kind < 0 || kind >= KINDS) {
            throw new IllegalArgumentException("no such kind");
        }
        if (a == NONE || (b == NONE && c != NONE)) {
            throw new IllegalArgumentException("a pin is missing");
        }
        requireLine(a);
        requireLineOrNone(b);
        requireLineOrNone(c);
        if (circuit.lines >= MOST_LINES) {
            throw new IllegalStateException("no room for a gate");
        }
        seen.removeAll();
        return circuit.addGate(kind, a, b, c);
    }

    public int output(int line) throws IndexOutOfBoundsException, IllegalStateException {
        requireLine(line);
        if (circuit.isOutput(line) || circuit.outputs >= MOST_OUTPUTS) {
            throw new IllegalStateException("an output already, or no room for one");
        }
        seen.removeAll();
        return circuit.addOutput(line);
    }

    public void data(int flop, int line) throws IndexOutOfBoundsException, IllegalArgumentException {
        requireLine(flop);
        requireLine(line);
        if (!circuit.isFlop[flop]) {
            throw new IllegalArgumentException("not a flip-flop");
        }
        seen.removeAll();
        circuit.connectData(flop, line);
    }

    public int count(int what) throws IllegalArgumentException {
        switch (what) {
            case 0:
                return circuit.lines;
            case 1:
                return circuit.sources;
            case 2:
                return circuit.observed;
            case 3:
                return circuit.faults();
            case 4:
                responses.prepareAll();
                return responses.shownFaults();
            case 5:
                responses.prepareAll();
                return responses.classesOfAlike();
            default:
                throw new IllegalArgumentException("nothing to count");
        }
    }

    public int value(int vector, int line, int fault) throws IndexOutOfBoundsException {
        requireLine(line);
        requireVector(vector);
        requireFaultOrNone(fault);
        signals.settleVectors(fault);
        return signals.stateOf(line, vector);
    }

    public int response(int vector, int fault) throws IndexOutOfBoundsException {
        requireVector(vector);
        requireFaultOrNone(fault);
        responses.prepare(fault);
        return responses.to(vector, fault);
    }

    public int fault(int line, int pin, int v) {
        if (!circuit.hasLine(line) || v < 0 || v > 1) {
            return NONE;
        }
        if (pin == NONE) {
            return 2 * line + v;
        }
        if (pin < 0 || pin >= circuit.pinsOf(line)) {
            return NONE;
        }
        return 2 * (circuit.lines + circuit.firstPin[line] + pin) + v;
    }

    public int faultAt(int fault, int what) throws IndexOutOfBoundsException, IllegalArgumentException {
        requireFault(fault);
        int line = circuit.stuckLine(fault);
        int pin = circuit.stuckPin(fault);
        switch (what) {
            case 0:
                return pin == NONE ? line : circuit.gateOfPin[pin];
            case 1:
                return pin == NONE ? NONE : pin - circuit.firstPin[circuit.gateOfPin[pin]];
            case 2:
                return fault & 1;
            default:
                throw new IllegalArgumentException("nothing to tell of a fault");
        }
    }

    public int least(int fault) throws IndexOutOfBoundsException {
        requireFault(fault);
        responses.prepare(fault);
        return responses.firstShowing(fault);
    }

    public long showing(int fault) throws IndexOutOfBoundsException {
        requireFault(fault);
        responses.prepare(fault);
        return responses.vectorsShowing(fault);
    }

    public int alike(int fault) throws IndexOutOfBoundsException {
        requireFault(fault);
        responses.prepareAll();
        return responses.firstAlike(fault);
    }

    public int ternary(int open, int ones, int line, int fault)
            throws IndexOutOfBoundsException, IllegalArgumentException {
        requireLine(line);
        requireFaultOrNone(fault);
        if (!circuit.isSumOfSources(open) || !circuit.isSumOfSources(ones)) {
            throw new IllegalArgumentException("not a sum of sources");
        }
        if ((open & ones) != 0) {
            throw new IllegalArgumentException("a source is open and 1");
        }
        signals.settleCube(open, ones, fault);
        return signals.stateOf(line, 0);
    }

    public int cube(int fault) throws IndexOutOfBoundsException {
        requireFault(fault);
        responses.prepare(fault);
        int first = responses.firstShowing(fault);
        return first == NONE ? NONE : cubes.widen(first, fault);
    }

    public int packed(int k) {
        responses.prepareAll();
        return packedSet.at(k);
    }

    public int log(int vector, int response)
            throws IndexOutOfBoundsException, IllegalArgumentException, IllegalStateException {
        requireVector(vector);
        if (response < 0 || response >= RESPONSES) {
            throw new IllegalArgumentException("no such response");
        }
        if (seen.size >= MOST_SEEN) {
            throw new IllegalStateException("the log is full");
        }
        return seen.add(vector, response);
    }

    public int forget() {
        int size = seen.size;
        seen.removeAll();
        return size;
    }

    public int explains(int k) {
        if (k == NONE) {
            responses.prepare(NONE);
            return seen.isExplainedBy(NONE) ? 1 : 0;
        }
        responses.prepareAll();
        int before = 0;
        for (int fault = 0; fault < circuit.faults(); fault++) {
            if (seen.isExplainedBy(fault)) {
                if (before == k) {
                    return fault;
                }
                before++;
            }
        }
        return NONE;
    }

    private void requireLine(int line) {
        if (!circuit.hasLine(line)) {
            throw new IndexOutOfBoundsException("no such line");
        }
    }

    private void requireLineOrNone(int line) {
        if (line != NONE) {
            requireLine(line);
        }
    }

    private void requireVector(int vector) {
        if (vector < 0 || vector >= circuit.vectors()) {
            throw new IndexOutOfBoundsException("no such vector");
        }
    }

    private void requireFault(int fault) {
        if (fault < 0 || fault >= circuit.faults()) {
            throw new IndexOutOfBoundsException("no such fault");
        }
    }

    private void requireFaultOrNone(int fault) {
        if (fault != NONE) {
            requireFault(fault);
        }
    }

    /** What was built. All that is asked follows from it and is worked out elsewhere. */
    private static final class Circuit {
        /** Another one after each change, so that what was worked out before is known to be old. */
        int version = 1;
        int lines = 0;
        int sources = 0;
        int outputs = 0;
        int observed = 0;
        private int pins = 0;
        final int[] kindOf = new int[MOST_LINES];
        final int[] sourceOf = new int[MOST_LINES];
        final boolean[] isFlop = new boolean[MOST_LINES];
        /** Pins are numbered through all gates: those of a line end where those of the next one begin. */
        final int[] firstPin = new int[MOST_LINES + 1];
        final int[] lineReadBy = new int[MOST_PINS];
        final int[] gateOfPin = new int[MOST_PINS];
        final int[] observedLine = new int[MOST_OBSERVED];
        private final int[] dataOf = new int[MOST_LINES];
        private final int[] outputLine = new int[MOST_OUTPUTS];

        void removeAll() {
            lines = 0;
            sources = 0;
            outputs = 0;
            observed = 0;
            pins = 0;
            version++;
        }

        int addSource(boolean flop) {
            int line = addLine(OF_A_SOURCE);
            isFlop[line] = flop;
            sourceOf[line] = sources;
            sources++;
            return line;
        }

        int addGate(int kind, int a, int b, int c) {
            int line = addLine(kind);
            addPin(line, a);
            addPin(line, b);
            addPin(line, c);
            return line;
        }

        private int addLine(int kind) {
            int line = lines;
            kindOf[line] = kind;
            isFlop[line] = false;
            sourceOf[line] = NONE;
            dataOf[line] = NONE;
            firstPin[line + 1] = pins;
            lines++;
            version++;
            return line;
        }

        private void addPin(int gate, int read) {
            if (read == NONE) {
                return;
            }
            lineReadBy[pins] = read;
            gateOfPin[pins] = gate;
            pins++;
            firstPin[gate + 1] = pins;
        }

        int addOutput(int line) {
            outputLine[outputs] = line;
            outputs++;
            gatherObserved();
            return outputs;
        }

        void connectData(int flop, int line) {
            dataOf[flop] = line;
            gatherObserved();
        }

        private void gatherObserved() {
            observed = 0;
            for (int i = 0; i < outputs; i++) {
                observe(outputLine[i]);
            }
            for (int line = 0; line < lines; line++) {
                observe(dataOf[line]);
            }
            version++;
        }

        private void observe(int line) {
            if (line != NONE) {
                observedLine[observed] = line;
                observed++;
            }
        }

        boolean isOutput(int line) {
            for (int i = 0; i < outputs; i++) {
                if (outputLine[i] == line) {
                    return true;
                }
            }
            return false;
        }

        boolean hasLine(int line) {
            return line >= 0 && line < lines;
        }

        int pinsOf(int line) {
            return firstPin[line + 1] - firstPin[line];
        }

        int vectors() {
            return 1 << sources;
        }

        boolean isSumOfSources(int sum) {
            return sum >= 0 && sum < vectors();
        }

        int faults() {
            return 2 * (lines + pins);
        }

        /** NONE where the fault is a pin's, or there is none. */
        int stuckLine(int fault) {
            int site = fault >> 1;
            return site >= 0 && site < lines ? site : NONE;
        }

        /** The pin as numbered through all gates; NONE where the fault is a line's, or there is none. */
        int stuckPin(int fault) {
            int site = fault >> 1;
            return site >= lines ? site - lines : NONE;
        }
    }

    /**
     * The states of all lines in 64 cases at once, a bit each. A line is open where neither its bit of
     * ones nor that of zeros is set, so that vectors and cubes go through the same gates.
     */
    private static final class Signals {
        private final Circuit circuit;
        private final long[] sourceOnes = new long[MOST_SOURCES];
        private final long[] sourceZeros = new long[MOST_SOURCES];
        private final long[] ones = new long[MOST_LINES];
        private final long[] zeros = new long[MOST_LINES];
        private int stuckPin = NONE;
        private long stuckOnes = 0;

        Signals(Circuit circuit) {
            this.circuit = circuit;
        }

        /** Case v is vector v. */
        void settleVectors(int fault) {
            for (int i = 0; i < MOST_SOURCES; i++) {
                sourceOnes[i] = SOURCE_IN_VECTORS[i];
                sourceZeros[i] = ~SOURCE_IN_VECTORS[i];
            }
            settle(fault);
        }

        /** All cases are the same cube. */
        void settleCube(int open, int oneSources, int fault) {
            for (int i = 0; i < MOST_SOURCES; i++) {
                boolean isOpen = (open >> i & 1) == 1;
                boolean isOne = (oneSources >> i & 1) == 1;
                sourceOnes[i] = !isOpen && isOne ? -1L : 0L;
                sourceZeros[i] = !isOpen && !isOne ? -1L : 0L;
            }
            settle(fault);
        }

        private void settle(int fault) {
            int stuckLine = circuit.stuckLine(fault);
            stuckPin = circuit.stuckPin(fault);
            stuckOnes = (fault & 1) == 1 ? -1L : 0L;
            for (int line = 0; line < circuit.lines; line++) {
                if (line == stuckLine) {
                    ones[line] = stuckOnes;
                    zeros[line] = ~stuckOnes;
                } else if (circuit.kindOf[line] == OF_A_SOURCE) {
                    ones[line] = sourceOnes[circuit.sourceOf[line]];
                    zeros[line] = sourceZeros[circuit.sourceOf[line]];
                } else {
                    settleGate(line);
                }
            }
        }

        private void settleGate(int line) {
            int family = circuit.kindOf[line] >> 1;
            boolean contrary = (circuit.kindOf[line] & 1) == 1;
            long one = family == AND_FAMILY ? -1L : 0L;
            long zero = ~one;
            for (int pin = circuit.firstPin[line]; pin < circuit.firstPin[line + 1]; pin++) {
                int read = circuit.lineReadBy[pin];
                long pinOne = pin == stuckPin ? stuckOnes : ones[read];
                long pinZero = pin == stuckPin ? ~stuckOnes : zeros[read];
                if (family == AND_FAMILY) {
                    one &= pinOne;
                    zero |= pinZero;
                } else if (family == OR_FAMILY) {
                    one |= pinOne;
                    zero &= pinZero;
                } else {
                    long odd = (one & pinZero) | (zero & pinOne);
                    zero = (zero & pinZero) | (one & pinOne);
                    one = odd;
                }
            }
            ones[line] = contrary ? zero : one;
            zeros[line] = contrary ? one : zero;
        }

        int stateOf(int line, int inCase) {
            if ((ones[line] >>> inCase & 1L) == 1L) {
                return 1;
            }
            return (zeros[line] >>> inCase & 1L) == 1L ? 0 : OPEN;
        }

        long onesOf(int line) {
            return ones[line];
        }

        boolean isContraryTo(Signals other) {
            for (int k = 0; k < circuit.observed; k++) {
                int line = circuit.observedLine[k];
                if (((ones[line] & other.zeros[line]) | (zeros[line] & other.ones[line])) != 0L) {
                    return true;
                }
            }
            return false;
        }
    }

    /**
     * The responses to all vectors, by faults, each worked out once for a circuit. What is asked of a fault
     * is read from what prepare or prepareAll has worked out before.
     */
    private static final class Responses {
        private final Circuit circuit;
        private final Signals signals;
        /** The circuit without a fault stands at place 0, fault f at f + 1; bit v of an entry is vector v. */
        private final long[] observedOnes = new long[(MOST_FAULTS + 1) * MOST_OBSERVED];
        private final long[] shownBy = new long[MOST_FAULTS + 1];
        private final int[] versionOf = new int[MOST_FAULTS + 1];

        Responses(Circuit circuit) {
            this.circuit = circuit;
            this.signals = new Signals(circuit);
        }

        void prepareAll() {
            for (int fault = NONE; fault < circuit.faults(); fault++) {
                workOut(fault);
            }
        }

        void prepare(int fault) {
            workOut(NONE);
            workOut(fault);
        }

        private void workOut(int fault) {
            int place = fault + 1;
            if (versionOf[place] == circuit.version) {
                return;
            }
            // With fewer than 6 sources the cases behind the last vector repeat vectors and must not count.
            long vectorsThere = -1L >>> (MOST_VECTORS - circuit.vectors());
            long different = 0L;
            signals.settleVectors(fault);
            for (int k = 0; k < circuit.observed; k++) {
                long ones = signals.onesOf(circuit.observedLine[k]) & vectorsThere;
                observedOnes[place * MOST_OBSERVED + k] = ones;
                different |= ones ^ observedOnes[k];
            }
            shownBy[place] = different;
            versionOf[place] = circuit.version;
        }

        int to(int vector, int fault) {
            int start = (fault + 1) * MOST_OBSERVED;
            int sum = 0;
            for (int k = 0; k < circuit.observed; k++) {
                sum |= (int) (observedOnes[start + k] >>> vector & 1L) << k;
            }
            return sum;
        }

        long vectorsShowing(int fault) {
            return shownBy[fault + 1];
        }

        int firstShowing(int fault) {
            long vectors = vectorsShowing(fault);
            for (int vector = 0; vector < MOST_VECTORS; vector++) {
                if ((vectors >>> vector & 1L) == 1L) {
                    return vector;
                }
            }
            return NONE;
        }

        int firstAlike(int fault) {
            for (int before = 0; before < fault; before++) {
                if (areAlike(before, fault)) {
                    return before;
                }
            }
            return fault;
        }

        private boolean areAlike(int fault, int other) {
            // Most faults differ in this one word already, which spares comparing all observed lines.
            if (vectorsShowing(fault) != vectorsShowing(other)) {
                return false;
            }
            int start = (fault + 1) * MOST_OBSERVED;
            int otherStart = (other + 1) * MOST_OBSERVED;
            for (int k = 0; k < circuit.observed; k++) {
                if (observedOnes[start + k] != observedOnes[otherStart + k]) {
                    return false;
                }
            }
            return true;
        }

        int shownFaults() {
            int shown = 0;
            for (int fault = 0; fault < circuit.faults(); fault++) {
                if (vectorsShowing(fault) != 0L) {
                    shown++;
                }
            }
            return shown;
        }

        int classesOfAlike() {
            int classes = 0;
            for (int fault = 0; fault < circuit.faults(); fault++) {
                if (firstAlike(fault) == fault) {
                    classes++;
                }
            }
            return classes;
        }
    }

    /** Which sources need not be known for a fault to be shown. */
    private static final class Cubes {
        private final Circuit circuit;
        private final Signals sound;
        private final Signals faulty;

        Cubes(Circuit circuit) {
            this.circuit = circuit;
            this.sound = new Signals(circuit);
            this.faulty = new Signals(circuit);
        }

        int widen(int vector, int fault) {
            int open = 0;
            int ones = vector;
            for (int i = 0; i < circuit.sources; i++) {
                int source = 1 << i;
                if (shows(open | source, ones & ~source, fault)) {
                    open |= source;
                    ones &= ~source;
                }
            }
            return MOST_VECTORS * open + ones;
        }

        private boolean shows(int open, int ones, int fault) {
            sound.settleCube(open, ones, NONE);
            faulty.settleCube(open, ones, fault);
            return sound.isContraryTo(faulty);
        }
    }

    /** The small set of vectors that shows all faults that can be shown. */
    private static final class PackedSet {
        private final Circuit circuit;
        private final Responses responses;
        private final int[] vectors = new int[MOST_VECTORS];
        private int size = 0;
        private long members = 0L;
        private int version = 0;

        PackedSet(Circuit circuit, Responses responses) {
            this.circuit = circuit;
            this.responses = responses;
        }

        int at(int k) {
            if (version != circuit.version) {
                gather();
                thinOut();
                dropTheLeftOut();
                version = circuit.version;
            }
            return k >= 0 && k < size ? vectors[k] : NONE;
        }

        private void gather() {
            size = 0;
            members = 0L;
            for (int fault = 0; fault < circuit.faults(); fault++) {
                int first = responses.firstShowing(fault);
                if (first != NONE && (responses.vectorsShowing(fault) & members) == 0L) {
                    vectors[size] = first;
                    size++;
                    members |= 1L << first;
                }
            }
        }

        private void thinOut() {
            for (int i = size - 1; i >= 0; i--) {
                long others = members & ~(1L << vectors[i]);
                if (showAll(others)) {
                    members = others;
                }
            }
        }

        private boolean showAll(long some) {
            for (int fault = 0; fault < circuit.faults(); fault++) {
                long showing = responses.vectorsShowing(fault);
                if (showing != 0L && (showing & some) == 0L) {
                    return false;
                }
            }
            return true;
        }

        private void dropTheLeftOut() {
            int kept = 0;
            for (int i = 0; i < size; i++) {
                if ((members >>> vectors[i] & 1L) == 1L) {
                    vectors[kept] = vectors[i];
                    kept++;
                }
            }
            size = kept;
        }
    }

    /** The vectors that were put in, with the responses that were seen. */
    private static final class SeenLog {
        private final Responses responses;
        private final int[] vectors = new int[MOST_SEEN];
        private final int[] seenResponses = new int[MOST_SEEN];
        int size = 0;

        SeenLog(Responses responses) {
            this.responses = responses;
        }

        int add(int vector, int response) {
            vectors[size] = vector;
            seenResponses[size] = response;
            size++;
            return size;
        }

        void removeAll() {
            size = 0;
        }

        boolean isExplainedBy(int fault) {
            for (int i = 0; i < size; i++) {
                if (responses.to(vectors[i], fault) != seenResponses[i]) {
                    return false;
                }
            }
            return true;
        }
    }
}
