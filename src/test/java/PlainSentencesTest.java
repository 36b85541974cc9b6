import java.util.Arrays;

/** The sentences that name no boundary case and that no Edge test quotes, a method for each. */
public final class PlainSentencesTest {
    private static final int NONE = StuckLines.NONE;
    private static final int OPEN = 2;

    private static final int SUM = 3;
    private static final int AB = 4;
    private static final int CARRY = 7;
    private static final int SAME = 8;
    private static final int VECTORS = 8;
    private static final int FAULTS = 46;

    public static void main(String[] args) {
        oneLineOrPinMayBeStuck();
        inputsThatShowIt();
        faultsThatNothingTellsApart();
        aSmallSetThatShowsAll();
        faultsThatExplainWhatWasSeen();
        gatesAreLinesToo();
        kindsOfAllPins();
        pinsReadTheirLines();
        aGateAnswersItsLine();
        cubesGateByGate();
        theCubeOfAFaultThatIsNotHidden();
        Check.finish();
    }

    /**
     * An adder: inputs 0 and 1, flip-flop 2, the XOR of all three (an output), their ANDs by two, the OR of
     * these, and the AND of that line with itself (the data line), of which a pin stuck at 1 is hidden.
     */
    private static StuckLines adder() {
        StuckLines x = new StuckLines();
        x.source(false);
        x.source(false);
        x.source(true);
        x.gate(4, 0, 1, 2);
        x.gate(0, 0, 1, NONE);
        x.gate(0, 0, 2, NONE);
        x.gate(0, 1, 2, NONE);
        x.gate(2, 4, 5, 6);
        x.gate(0, CARRY, CARRY, NONE);
        x.output(SUM);
        x.data(2, SAME);
        return x;
    }

    private static int[] responses(int fault) {
        StuckLines x = adder();
        int[] all = new int[VECTORS];
        for (int vector = 0; vector < VECTORS; vector++) {
            all[vector] = x.response(vector, fault);
        }
        return all;
    }

    private static long showing(int fault) {
        int[] with = responses(fault);
        long all = 0;
        for (int vector = 0; vector < VECTORS; vector++) {
            all |= with[vector] == Integer.bitCount(vector) ? 0L : 1L << vector;
        }
        return all;
    }

    private static void oneLineOrPinMayBeStuck() {
        Check.sentence("a circuit of gates and flip-flops in which one line or pin may be stuck");
        StuckLines x = adder();
        Check.due("faults", x.count(3), FAULTS);
        for (int vector = 0; vector < VECTORS; vector++) {
            int a = vector & 1;
            int b = vector >> 1 & 1;
            int c = vector >> 2;
            Check.due("the sum of three bits", x.response(vector, NONE), a + b + c);
            for (int v = 0; v < 2; v++) {
                Check.due("a stuck input", x.response(vector, x.fault(0, NONE, v)), v + b + c);
                Check.due("a stuck flip-flop", x.response(vector, x.fault(2, NONE, v)), a + b + v);
                Check.due("a stuck gate", x.response(vector, x.fault(SUM, NONE, v)), (a + b + c & 2) + v);
                int carry = v & b | a & c | b & c;
                Check.due("a stuck pin", x.response(vector, x.fault(AB, 0, v)), 2 * carry + (a + b + c) % 2);
            }
        }
    }

    private static void inputsThatShowIt() {
        Check.sentence("the inputs that show it or that there are none");
        StuckLines x = adder();
        for (int fault = 0; fault < FAULTS; fault++) {
            long all = showing(fault);
            Check.due("all that show fault " + fault, x.showing(fault), all);
            Check.due("the least that shows it", x.least(fault), all == 0 ? NONE : Long.numberOfTrailingZeros(all));
        }
        Check.due("none", x.showing(x.fault(SAME, 0, 1)), 0);
        Check.due("none", x.showing(x.fault(SAME, 1, 1)), 0);
        Check.due("all others are shown", x.count(4), FAULTS - 2);
    }

    private static int firstWithTheResponsesOf(int fault) {
        String wanted = Arrays.toString(responses(fault));
        for (int before = 0; before < fault; before++) {
            if (Arrays.toString(responses(before)).equals(wanted)) {
                return before;
            }
        }
        return fault;
    }

    private static void faultsThatNothingTellsApart() {
        Check.sentence("faults that nothing tells apart");
        StuckLines x = adder();
        int classes = 0;
        for (int fault = 0; fault < FAULTS; fault++) {
            int first = firstWithTheResponsesOf(fault);
            Check.due("alike(" + fault + ")", x.alike(fault), first);
            classes += first == fault ? 1 : 0;
        }
        Check.due("those that something tells apart", x.count(5), classes);
        Check.due("a pin at 0 is as the AND at 0", x.alike(x.fault(AB, 1, 0)), x.fault(AB, NONE, 0));
    }

    private static void aSmallSetThatShowsAll() {
        Check.sentence("a small set of inputs that shows all that can be shown");
        StuckLines x = adder();
        long members = 0;
        int size = 0;
        while (size < VECTORS && x.packed(size) != NONE) {
            members |= 1L << x.packed(size);
            size++;
        }
        Check.due("each vector once", Long.bitCount(members), size);
        Check.due("small", size, 6);
        Check.due("what it leaves unseen that could be shown", missedBy(members), 0);
        for (int k = 0; k < size; k++) {
            long others = members & ~(1L << x.packed(k));
            Check.due("it is missed if " + x.packed(k) + " is left out", missedBy(others) > 0 ? 1 : 0, 1);
        }
    }

    private static int missedBy(long vectors) {
        int missed = 0;
        for (int fault = 0; fault < FAULTS; fault++) {
            long all = showing(fault);
            missed += all != 0 && (all & vectors) == 0 ? 1 : 0;
        }
        return missed;
    }

    private static void faultsThatExplainWhatWasSeen() {
        Check.sentence("which faults explain what was seen");
        for (int culprit = NONE; culprit < FAULTS; culprit++) {
            StuckLines x = adder();
            int[] seen = responses(culprit);
            for (int vector = 0; vector < VECTORS; vector++) {
                x.log(vector, seen[vector]);
            }
            boolean nothingSeen = culprit == NONE || showing(culprit) == 0;
            Check.due("without a fault", x.explains(NONE), nothingSeen ? 1 : 0);
            // All vectors were put in, so those that explain it are those that nothing tells from the culprit.
            int first = culprit == NONE ? x.alike(x.fault(SAME, 0, 1)) : x.alike(culprit);
            int k = 0;
            for (int fault = 0; fault < FAULTS; fault++) {
                if (x.alike(fault) == first) {
                    Check.due("with fault " + culprit + ": explains(" + k + ")", x.explains(k), fault);
                    k++;
                }
            }
            Check.due("with fault " + culprit + ": no more", x.explains(k), NONE);
        }
    }

    private static void gatesAreLinesToo() {
        Check.sentence("A CIRCUIT has LINES 0, 1, .. (at most 26): INPUTS and FLIP-FLOPS (at most 6 together, the "
            + "SOURCES, counted 0, 1, .. by themselves, too), and GATES.");
        StuckLines x = new StuckLines();
        Check.due("an input is line 0", x.source(false), 0);
        Check.due("a gate is line 1", x.gate(1, 0, NONE, NONE), 1);
        Check.due("a flip-flop is line 2", x.source(true), 2);
        Check.due("a gate is line 3", x.gate(0, 1, 2, NONE), 3);
        Check.due("lines", x.count(0), 4);
        Check.due("a gate is no source", x.count(1), 2);
        Check.due("a gate can be read by a gate", x.gate(1, 3, NONE, NONE), 4);
        Check.due("a gate can be an output", x.output(4), 1);
        x.data(2, 3);
        Check.due("a gate can be a data line", x.response(2, NONE), 2);
        Check.due("a gate can be stuck", x.fault(3, NONE, 1), 7);
        Check.due("line 2 is source 1", x.value(2, 2, NONE), 1);
        Check.due("line 2 is not source 2", x.count(1), 2);
    }

    private static int dueOf(int kind, int ones, int pins) {
        int[] plain = {ones == pins ? 1 : 0, ones > 0 ? 1 : 0, ones % 2};
        return kind % 2 == 0 ? plain[kind / 2] : 1 - plain[kind / 2];
    }

    /** Pins in each order of the lines, so that no pin may be forgotten or taken for another one. */
    private static void kindsOfAllPins() {
        Check.sentence("KINDS: 0 AND, 1 NAND, 2 OR, 3 NOR, 4 XOR, 5 XNOR of all its pins");
        int[][] reads = {{0, 1, 2}, {2, 0, 1}, {1, 2, 0}, {0, 1, NONE}, {1, 0, NONE}, {2, 1, NONE}, {2, NONE, NONE}};
        for (int[] read : reads) {
            int lines = 0;
            int pins = 0;
            for (int line : read) {
                lines |= line == NONE ? 0 : 1 << line;
                pins += line == NONE ? 0 : 1;
            }
            for (int kind = 0; kind <= 5; kind++) {
                StuckLines x = new StuckLines();
                x.source(false);
                x.source(true);
                x.source(false);
                int gate = x.gate(kind, read[0], read[1], read[2]);
                x.output(gate);
                for (int vector = 0; vector < VECTORS; vector++) {
                    int due = dueOf(kind, Integer.bitCount(vector & lines), pins);
                    Check.due("kind " + kind + " of " + pins + " pins", x.value(vector, gate, NONE), due);
                    Check.due("kind " + kind + ", observed", x.response(vector, NONE), due);
                    Check.due("kind " + kind + ", in a cube", x.ternary(0, vector, gate, NONE), due);
                }
            }
        }
    }

    /** A pin that is stuck leaves the lines of the other two pins alone, which tells them apart. */
    private static void pinsReadTheirLines() {
        Check.sentence("Promise 4: A new gate whose pins read lines a, b, c");
        int[][] reads = {{0, 1, 2}, {0, 2, 1}, {1, 0, 2}, {1, 2, 0}, {2, 0, 1}, {2, 1, 0}, {0, 0, 1}, {2, 1, 2}};
        for (int[] read : reads) {
            StuckLines x = new StuckLines();
            x.source(false);
            x.source(false);
            x.source(false);
            int gate = x.gate(4, read[0], read[1], read[2]);
            for (int pin = 0; pin < 3; pin++) {
                int one = read[(pin + 1) % 3];
                int other = read[(pin + 2) % 3];
                for (int vector = 0; vector < VECTORS; vector++) {
                    int due = (vector >> one ^ vector >> other) & 1;
                    Check.due("pin " + pin + " does not read " + read[pin] + ", at " + vector,
                        x.value(vector, gate, x.fault(gate, pin, 0)), due);
                    Check.due("pin " + pin + " reads 1, at " + vector,
                        x.value(vector, gate, x.fault(gate, pin, 1)), 1 - due);
                }
            }
        }
    }

    private static void aGateAnswersItsLine() {
        Check.sentence("Promise 4: A new gate whose pins read lines a, b, c (NONE where it has none: then those behind "
            + "are NONE, too); answers its line.");
        StuckLines x = new StuckLines();
        x.source(false);
        int due = 1;
        for (int kind = 0; kind <= 5; kind++) {
            Check.due("kind " + kind + ", one pin", x.gate(kind, due - 1, NONE, NONE), due);
            Check.due("kind " + kind + ", two pins", x.gate(kind, due, 0, NONE), due + 1);
            Check.due("kind " + kind + ", three pins", x.gate(kind, 0, due, due + 1), due + 2);
            due += 3;
            Check.due("lines", x.count(0), due);
            Check.due("the line is the gate's", x.faultAt(x.fault(due - 1, 2, 1), 0), due - 1);
        }
        x.clear();
        x.source(true);
        Check.due("after clear", x.gate(0, 0, NONE, NONE), 1);
    }

    private static void cubesGateByGate() {
        Check.sentence("CUBES: each source is 0, 1 or OPEN. With it, lines are 0, 1 or OPEN, gate by gate: a kind 0 to 3 "
            + "is what the pins that are not open make of it");
        StuckLines x = new StuckLines();
        x.source(false);
        x.source(true);
        int not = x.gate(1, 0, NONE, NONE);
        int always = x.gate(2, 0, not, NONE);
        int behind = x.gate(0, always, 1, NONE);
        int last = x.gate(3, behind, 0, NONE);
        for (int i = 0; i < 2; i++) {
            Check.due("a source is 0", x.ternary(3 - (1 << i), 0, i, NONE), 0);
            Check.due("a source is 1", x.ternary(3 - (1 << i), 1 << i, i, NONE), 1);
            Check.due("a source is open", x.ternary(1 << i, 0, i, NONE), OPEN);
        }
        Check.due("a gate is open", x.ternary(1, 0, not, NONE), OPEN);
        Check.due("1 for each vector, but open gate by gate", x.ternary(1, 0, always, NONE), OPEN);
        Check.due("1 when the source is 0", x.ternary(2, 0, always, NONE), 1);
        Check.due("1 when the source is 1", x.ternary(2, 1, always, NONE), 1);
        Check.due("an open gate is read as open", x.ternary(1, 2, behind, NONE), OPEN);
        Check.due("beside a pin that decides", x.ternary(1, 0, behind, NONE), 0);
        Check.due("the gate behind both", x.ternary(1, 0, last, NONE), OPEN);
        Check.due("a 1 decides, its contrary is 0", x.ternary(2, 1, last, NONE), 0);
        Check.due("all known", x.ternary(0, 0, last, NONE), 1);
    }

    private static void theCubeOfAFaultThatIsNotHidden() {
        Check.sentence("THE CUBE of a fault that is not hidden: begin with the least vector that shows it");
        for (int fault = 0; fault < FAULTS; fault++) {
            StuckLines x = adder();
            int cube = x.cube(fault);
            long all = showing(fault);
            Check.due("fault " + fault + " has a cube", cube == NONE ? 0 : 1, all == 0 ? 0 : 1);
            if (all == 0) {
                continue;
            }
            int open = cube / 64;
            int ones = cube % 64;
            int least = Long.numberOfTrailingZeros(all);
            Check.due("fault " + fault + ": what is not open is as in the least vector", ones, least & ~open);
            Check.due("fault " + fault + ": the cube shows it", showsAsCube(x, open, ones, fault), 1);
            for (int vector = 0; vector < VECTORS; vector++) {
                if ((vector & ~open) == ones) {
                    Check.due("fault " + fault + ": so does vector " + vector, all >> vector & 1, 1);
                }
            }
        }
    }

    private static int showsAsCube(StuckLines x, int open, int ones, int fault) {
        for (int line : new int[] {SUM, SAME}) {
            int without = x.ternary(open, ones, line, NONE);
            int with = x.ternary(open, ones, line, fault);
            if (without != OPEN && with == 1 - without) {
                return 1;
            }
        }
        return 0;
    }
}
