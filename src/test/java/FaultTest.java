/** Promises 7 to 14: count, value, response, fault, faultAt, least, showing, alike. */
public final class FaultTest {
    private static final int NONE = StuckLines.NONE;

    public static void main(String[] args) {
        counts();
        values();
        wrongQuestions();
        faultNumbers();
        stuckLineWhereItIsObserved();
        stuckPinIsNotItsLine();
        showingWithSixSources();
        hiddenFaults();
        alikeFaults();
        askedOfTheCircuitAsItIs();
        Check.finish();
    }

    /** Lines 0 and 1 are sources, 2 is their AND, 3 its contrary, observed. */
    private static StuckLines nand() {
        StuckLines x = new StuckLines();
        x.source(false);
        x.source(false);
        x.gate(0, 0, 1, NONE);
        x.gate(5, 2, NONE, NONE);
        x.output(3);
        return x;
    }

    private static void counts() {
        StuckLines x = nand();
        int[] due = {4, 2, 1, 14, 14, 4};
        for (int what = 0; what < due.length; what++) {
            Check.due("count(" + what + ")", x.count(what), due[what]);
        }
        x.gate(0, 0, 1, 2);
        Check.due("faults with a gate of three pins", x.count(3), 14 + 2 + 6);
        Check.due("those of a line that nothing reads are hidden", x.count(4), 14);
        Check.due("all hidden faults are alike", x.count(5), 5);
        Check.dueUnchanged("count", x, Check.ARGUMENT, () -> x.count(6), () -> x.count(-1),
            () -> x.count(Integer.MAX_VALUE), () -> x.count(Integer.MIN_VALUE));
    }

    private static void values() {
        StuckLines x = nand();
        for (int vector = 0; vector < 4; vector++) {
            int and = vector == 3 ? 1 : 0;
            Check.due("source 0", x.value(vector, 0, NONE), vector & 1);
            Check.due("source 1", x.value(vector, 1, NONE), vector >> 1);
            Check.due("the gate", x.value(vector, 2, NONE), and);
            Check.due("its contrary", x.value(vector, 3, NONE), 1 - and);
            Check.due("the response", x.response(vector, NONE), 1 - and);
            for (int v = 0; v < 2; v++) {
                int line = x.fault(0, NONE, v);
                Check.due("a stuck source", x.value(vector, 0, line), v);
                Check.due("what reads it", x.value(vector, 2, line), v & vector >> 1);
                Check.due("the response with it", x.response(vector, line), 1 - (v & vector >> 1));
                int pin = x.fault(2, 1, v);
                Check.due("the line that a stuck pin reads", x.value(vector, 1, pin), vector >> 1);
                Check.due("the gate of a stuck pin", x.value(vector, 2, pin), v & vector & 1);
                int gate = x.fault(2, NONE, v);
                Check.due("a stuck gate", x.value(vector, 2, gate), v);
                Check.due("what reads the stuck gate", x.response(vector, gate), 1 - v);
            }
        }
    }

    private static void wrongQuestions() {
        StuckLines x = nand();
        x.log(3, 0);
        int[] noLine = {4, NONE, -2, 26, Integer.MAX_VALUE, Integer.MIN_VALUE};
        int[] noVector = {4, -1, 64, Integer.MAX_VALUE, Integer.MIN_VALUE};
        int[] noFault = {14, -2, 300, Integer.MAX_VALUE, Integer.MIN_VALUE};
        String before = Check.picture(x);
        for (int line : noLine) {
            Check.dueThrow("value, line " + line, Check.INDEX, () -> x.value(0, line, NONE));
        }
        for (int vector : noVector) {
            Check.dueThrow("value, vector " + vector, Check.INDEX, () -> x.value(vector, 0, NONE));
            Check.dueThrow("response, vector " + vector, Check.INDEX, () -> x.response(vector, 0));
        }
        for (int fault : noFault) {
            Check.dueThrow("value, fault " + fault, Check.INDEX, () -> x.value(0, 0, fault));
            Check.dueThrow("response, fault " + fault, Check.INDEX, () -> x.response(0, fault));
            dueNoFault(x, fault);
        }
        dueNoFault(x, NONE);
        for (int what : new int[] {-1, 3, Integer.MAX_VALUE, Integer.MIN_VALUE}) {
            Check.dueThrow("faultAt, what " + what, Check.ARGUMENT, () -> x.faultAt(0, what));
        }
        Check.dueText("after wrong questions", Check.picture(x), before);
        Check.due("the log after them", x.forget(), 1);
    }

    private static void dueNoFault(StuckLines x, int fault) {
        Check.dueThrow("faultAt " + fault, Check.INDEX, () -> x.faultAt(fault, 0));
        Check.dueThrow("faultAt, no such fault goes first " + fault, Check.INDEX, () -> x.faultAt(fault, 3));
        Check.dueThrow("least " + fault, Check.INDEX, () -> x.least(fault));
        Check.dueThrow("showing " + fault, Check.INDEX, () -> x.showing(fault));
        Check.dueThrow("alike " + fault, Check.INDEX, () -> x.alike(fault));
        Check.dueThrow("cube " + fault, Check.INDEX, () -> x.cube(fault));
    }

    private static void faultNumbers() {
        StuckLines x = new StuckLines();
        x.source(false);
        x.gate(0, 0, NONE, NONE);
        x.source(true);
        x.gate(4, 0, 1, 2);
        x.gate(2, 3, 0, NONE);
        // Each site as its line and its own pin, in the order that the document tells.
        int[][] sites = {{0, NONE}, {1, NONE}, {2, NONE}, {3, NONE}, {4, NONE},
            {1, 0}, {3, 0}, {3, 1}, {3, 2}, {4, 0}, {4, 1}};
        Check.due("count(3)", x.count(3), 2 * sites.length);
        for (int site = 0; site < sites.length; site++) {
            for (int v = 0; v < 2; v++) {
                int fault = 2 * site + v;
                Check.due("fault", x.fault(sites[site][0], sites[site][1], v), fault);
                Check.due("faultAt 0", x.faultAt(fault, 0), sites[site][0]);
                Check.due("faultAt 1", x.faultAt(fault, 1), sites[site][1]);
                Check.due("faultAt 2", x.faultAt(fault, 2), v);
            }
        }
        int[][] none = {{5, NONE, 0}, {-1, NONE, 0}, {NONE, 0, 0}, {0, 0, 0}, {2, 0, 1}, {1, 1, 0}, {3, 3, 1}, {4, 2, 0},
            {3, -2, 0}, {3, NONE, 2}, {3, NONE, -1}, {3, 0, 2}, {26, NONE, 0}, {Integer.MAX_VALUE, NONE, 0},
            {Integer.MIN_VALUE, 0, 1}, {3, Integer.MAX_VALUE, 0}, {3, Integer.MIN_VALUE, 0}, {3, 0, Integer.MIN_VALUE}};
        for (int[] asked : none) {
            Check.due("no such fault", x.fault(asked[0], asked[1], asked[2]), NONE);
        }
    }

    private static void stuckLineWhereItIsObserved() {
        StuckLines x = new StuckLines();
        int flop = x.source(true);
        x.gate(1, flop, NONE, NONE);
        x.output(flop);
        x.output(1);
        x.data(flop, flop);
        int stuck = x.fault(flop, NONE, 1);
        Check.due("without", x.response(0, NONE), 2);
        Check.due("stuck at 1 in all places", x.response(0, stuck), 1 + 4);
        Check.due("only its reader knows of a stuck pin", x.response(0, x.fault(1, 0, 1)), 0);
        Check.due("showing", x.showing(stuck), 1);
        Check.due("showing", x.showing(x.fault(flop, NONE, 0)), 2);
    }

    private static void stuckPinIsNotItsLine() {
        StuckLines x = new StuckLines();
        x.source(false);
        x.gate(4, 0, 0, NONE);
        x.output(1);
        Check.due("both pins read the stuck line", x.showing(x.fault(0, NONE, 1)), 0);
        Check.due("pin 0 alone is stuck", x.showing(x.fault(1, 0, 1)), 1);
        Check.due("pin 1 alone is stuck", x.showing(x.fault(1, 1, 0)), 2);
        Check.due("the pins are alike", x.alike(x.fault(1, 1, 0)), x.fault(1, 0, 0));
    }

    private static void showingWithSixSources() {
        StuckLines x = new StuckLines();
        for (int i = 0; i < 6; i++) {
            x.source(false);
        }
        x.gate(0, 0, 1, 2);
        x.gate(0, 3, 4, 5);
        x.gate(0, 6, 7, NONE);
        x.output(8);
        Check.due("AND of six stuck at 0", x.showing(x.fault(8, NONE, 0)), Long.MIN_VALUE);
        Check.due("least of it", x.least(x.fault(8, NONE, 0)), 63);
        Check.due("AND of six stuck at 1", x.showing(x.fault(8, NONE, 1)), Long.MAX_VALUE);
        Check.due("least of it", x.least(x.fault(8, NONE, 1)), 0);
        Check.due("source 5 stuck at 1", x.showing(x.fault(5, NONE, 1)), 1L << 31);
        Check.due("least of it", x.least(x.fault(5, NONE, 1)), 31);
        Check.due("source 0 stuck at 1", x.least(x.fault(0, NONE, 1)), 62);
    }

    private static void hiddenFaults() {
        StuckLines x = new StuckLines();
        x.source(false);
        x.gate(1, 0, NONE, NONE);
        x.gate(0, 0, 1, NONE);
        Check.due("nothing is observed: nothing is shown", x.count(4), 0);
        Check.due("and all are alike", x.count(5), 1);
        x.output(2);
        int hidden = x.fault(2, NONE, 0);
        Check.due("the gate is always 0", x.least(hidden), NONE);
        Check.due("showing of a hidden fault", x.showing(hidden), 0);
        Check.due("cube of a hidden fault", x.cube(hidden), NONE);
        Check.due("stuck at 1 every vector shows it", x.showing(x.fault(2, NONE, 1)), 3);
        Check.due("a hidden fault before it", x.alike(hidden), x.fault(0, NONE, 0));
    }

    private static void alikeFaults() {
        StuckLines x = nand();
        int[] due = {0, 1, 0, 3, 0, 5, 5, 0, 0, 1, 0, 3, 0, 5};
        for (int fault = 0; fault < due.length; fault++) {
            Check.due("alike(" + fault + ")", x.alike(fault), due[fault]);
        }
        // The same vectors show both faults here, but by other responses.
        StuckLines y = new StuckLines();
        y.source(false);
        y.source(false);
        y.gate(4, 0, 1, NONE);
        y.gate(4, 0, 1, NONE);
        y.output(2);
        y.output(3);
        int one = y.fault(2, 0, 0);
        int other = y.fault(3, 0, 0);
        Check.due("shown by the same", y.showing(one), y.showing(other));
        Check.due("not alike", y.alike(other), other);
        Check.due("alike to the other pin of the same value? no", y.alike(y.fault(2, 1, 0)), y.fault(2, 1, 0));
    }

    private static void askedOfTheCircuitAsItIs() {
        StuckLines x = new StuckLines();
        x.source(false);
        x.output(0);
        Check.due("showing", x.showing(0), 2);
        x.source(false);
        Check.due("showing with one more source", x.showing(0), 2 + 8);
        x.gate(0, 0, 1, NONE);
        Check.due("hidden as long as it is not observed", x.showing(x.fault(1, NONE, 1)), 0);
        x.output(2);
        Check.due("then it is shown", x.showing(x.fault(1, NONE, 1)), 2);
        Check.due("and the response has one bit more", x.response(3, NONE), 3);
    }
}
