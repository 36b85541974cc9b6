/** The boundary cases of promises 7 to 14, a method for each sentence. */
public final class EdgeAskingTest {
    private static final int NONE = StuckLines.NONE;
    private static final int LEAST = Stage.LEAST;
    private static final int GREATEST = Stage.GREATEST;

    public static void main(String[] args) {
        countsOfEmptyAndFull();
        countOfShownAndUnlike();
        countOfNothing();
        valueWithAndWithout();
        valueOfNoSuchLine();
        valueForNoSuchVector();
        valueWithNoSuchFault();
        responseWithAndWithout();
        responseOfNoSuch();
        faultNumbers();
        noSuchFault();
        faultAtBothEnds();
        faultAtNoSuchFault();
        faultAtNothing();
        leastOfAll();
        leastOfAHiddenFault();
        leastOfNoSuchFault();
        showingBits();
        showingOfNoSuchFault();
        alikeToItself();
        alikeToNoSuchFault();
        Check.finish();
    }

    private static StuckLines withSources(int sources) {
        StuckLines x = new StuckLines();
        for (int i = 0; i < sources; i++) {
            x.source(false);
        }
        return x;
    }

    /** Just outside, farther outside and far outside; NONE is among them where it names no line or fault. */
    private static int[] outside(int bound) {
        return new int[] {bound, bound + 1, 2 * bound + 300, -2, -3, LEAST, LEAST + 1, GREATEST};
    }

    private static void countsOfEmptyAndFull() {
        Check.sentence("Promise 7: How many: what = 0 lines, 1 sources, 2 observed lines, 3 faults");
        for (Stage stage : Stage.values()) {
            StuckLines x = stage.make();
            Check.due(stage + ": count(0)", x.count(0), stage.lines);
            Check.due(stage + ": count(1)", x.count(1), stage.sources);
            Check.due(stage + ": count(2)", x.count(2), stage.observed);
            Check.due(stage + ": count(3)", x.count(3), stage.faults);
        }
    }

    private static void countOfShownAndUnlike() {
        Check.sentence("Promise 7: 4 faults that are not hidden, 5 faults to which none before them is alike");
        for (Stage stage : Stage.values()) {
            StuckLines asked = stage.make();
            StuckLines other = stage.make();
            int shown = 0;
            int unlike = 0;
            for (int fault = 0; fault < stage.faults; fault++) {
                shown += asked.least(fault) == NONE ? 0 : 1;
                unlike += other.alike(fault) == fault ? 1 : 0;
            }
            Check.due(stage + ": count(4)", stage.make().count(4), shown);
            Check.due(stage + ": count(5)", stage.make().count(5), unlike);
        }
        Check.due("empty: count(4)", new StuckLines().count(4), 0);
        Check.due("empty: count(5)", new StuckLines().count(5), 0);
        StuckLines x = withSources(1);
        Check.due("all hidden: count(4)", x.count(4), 0);
        Check.due("all alike: count(5)", x.count(5), 1);
        x.output(0);
        Check.due("none hidden: count(4)", x.count(4), 2);
        Check.due("none alike: count(5)", x.count(5), 2);
        // In the full one the flip-flops stuck at 0 or 1 (12), the gates at 0 (20) and pins at 0 (60) are shown, and
        // those at 1 that outputs have (6), line 6's and that of its pin 2 (2).
        Check.due("full: count(4)", Stage.FULL.make().count(4), 12 + 20 + 60 + 6 + 2);
    }

    private static void countOfNothing() {
        Check.sentence("Promise 7: IllegalArgumentException when what is none of these.");
        for (Stage stage : Stage.values()) {
            for (int what : new int[] {-1, 6, -2, 7, LEAST, GREATEST}) {
                Check.dueRefused("count(" + what + ")", stage, Check.ARGUMENT, x -> x.count(what));
            }
        }
    }

    private static void valueWithAndWithout() {
        Check.sentence("Promise 8: The value of a line for a vector (1 or 0), with a fault, or without (NONE).");
        StuckLines x = Stage.FULL.make();
        Check.due("first line, first vector", x.value(0, 0, NONE), 0);
        Check.due("first line, last vector", x.value(63, 0, NONE), 1);
        Check.due("last line, first vector", x.value(0, 25, NONE), 0);
        Check.due("last line, last vector", x.value(63, 25, NONE), 1);
        Check.due("last line, a vector too few", x.value(55, 25, NONE), 0);
        Check.due("first fault", x.value(63, 0, 0), 0);
        Check.due("first fault, another line", x.value(63, 25, 0), 1);
        Check.due("last line's last fault", x.value(0, 25, 51), 1);
        Check.due("last fault but one", x.value(63, 25, 170), 0);
        Check.due("last fault", x.value(63, 25, 171), 1);
        Check.due("last fault, the line that the pin reads", x.value(63, 22, 170), 1);
        StuckLines one = Stage.ONE_SOURCE.make();
        Check.due("last fault of the most", one.value(0, 25, 201), 1);
        Check.due("last fault of the most but one", one.value(1, 25, 200), 1);
        StuckLines built = Stage.REBUILT.make();
        Check.due("after clear", built.value(3, 3, NONE), 1);
        Check.due("after clear, last fault", built.value(0, 3, 17), 1);
    }

    private static void valueOfNoSuchLine() {
        Check.sentence("Promise 8: IndexOutOfBoundsException when there is no such line");
        for (Stage stage : Stage.values()) {
            for (int line : outside(stage.lines)) {
                Check.dueRefused("value of line " + line, stage, Check.INDEX, x -> x.value(0, line, NONE));
            }
            Check.dueRefused("value of line NONE", stage, Check.INDEX, x -> x.value(0, NONE, NONE));
        }
    }

    private static void valueForNoSuchVector() {
        Check.sentence("Promise 8: IndexOutOfBoundsException when there is no such .. vector");
        for (Stage stage : Stage.values()) {
            for (int vector : outside(stage.vectors())) {
                Check.dueRefused("value for " + vector, stage, Check.INDEX, x -> x.value(vector, 0, NONE));
            }
            Check.dueRefused("value for -1", stage, Check.INDEX, x -> x.value(-1, 0, NONE));
        }
    }

    private static void valueWithNoSuchFault() {
        Check.sentence("Promise 8: IndexOutOfBoundsException when there is no such .. fault");
        for (Stage stage : Stage.values()) {
            for (int fault : outside(stage.faults)) {
                Check.dueRefused("value with " + fault, stage, Check.INDEX, x -> x.value(0, 0, fault));
            }
        }
    }

    private static void responseWithAndWithout() {
        Check.sentence("Promise 9: The response to a vector, with a fault, or without (NONE).");
        Check.due("empty", Stage.NEW.make().response(0, NONE), 0);
        Check.due("cleared", Stage.CLEARED.make().response(0, NONE), 0);
        StuckLines x = Stage.FULL.make();
        for (int vector = 0; vector < 64; vector++) {
            Check.due("full", x.response(vector, NONE), Stage.responseOfFull(vector));
        }
        Check.due("first fault", x.response(63, 0), 4095 - 64);
        Check.due("last line's last fault", x.response(0, 51), 32);
        Check.due("last fault but one", x.response(63, 170), 4095 - 32);
        Check.due("last fault", x.response(63, 171), 4095);
        StuckLines one = Stage.ONE_SOURCE.make();
        Check.due("one source", one.response(1, NONE), 127);
        Check.due("last fault of the most", one.response(0, 201), 32 + 64);
        StuckLines built = Stage.REBUILT.make();
        int[] due = {0, 2, 2, 3};
        for (int vector = 0; vector < 4; vector++) {
            Check.due("after clear", built.response(vector, NONE), due[vector]);
        }
    }

    private static void responseOfNoSuch() {
        Check.sentence("Promise 9: IndexOutOfBoundsException when there is no such vector or fault.");
        for (Stage stage : Stage.values()) {
            for (int vector : outside(stage.vectors())) {
                Check.dueRefused("response to " + vector, stage, Check.INDEX, x -> x.response(vector, NONE));
            }
            Check.dueRefused("response to -1", stage, Check.INDEX, x -> x.response(-1, NONE));
            for (int fault : outside(stage.faults)) {
                Check.dueRefused("response with " + fault, stage, Check.INDEX, x -> x.response(0, fault));
            }
        }
    }

    private static void faultNumbers() {
        Check.sentence("Promise 10: The number of the fault that a line (pin is NONE) or pin is stuck at v");
        for (Stage stage : Stage.values()) {
            StuckLines x = stage.make();
            for (int line = 0; line < stage.lines; line++) {
                Check.due(stage + ": line at 0", x.fault(line, NONE, 0), 2 * line);
                Check.due(stage + ": line at 1", x.fault(line, NONE, 1), 2 * line + 1);
            }
            if (stage.lines > 0) {
                int last = stage.lines - 1;
                Check.due(stage + ": the last pin at 0", x.fault(last, 2, 0), stage.faults - 2);
                Check.due(stage + ": the last pin at 1", x.fault(last, 2, 1), stage.faults - 1);
            }
        }
    }

    private static void noSuchFault() {
        Check.sentence("Promise 10: NONE when there is none such.");
        for (Stage stage : Stage.values()) {
            StuckLines x = stage.make();
            for (int line : new int[] {stage.lines, stage.lines + 1, 26, NONE, -2, LEAST, GREATEST}) {
                for (int pin : new int[] {NONE, 0, 2}) {
                    Check.due(stage + ": line " + line, x.fault(line, pin, 0), NONE);
                    Check.due(stage + ": line " + line, x.fault(line, pin, 1), NONE);
                }
            }
            int last = stage.lines - 1;
            for (int pin : new int[] {3, 4, -2, LEAST, GREATEST}) {
                Check.due(stage + ": pin " + pin, x.fault(last, pin, 1), NONE);
            }
            for (int v : new int[] {-1, 2, -2, LEAST, LEAST + 1, GREATEST}) {
                Check.due(stage + ": line at " + v, x.fault(last, NONE, v), NONE);
                Check.due(stage + ": pin at " + v, x.fault(last, 2, v), NONE);
            }
            Check.due(stage + ": a source has no pin", x.fault(0, 0, 0), NONE);
        }
        StuckLines x = Stage.SMALL.make();
        Check.due("two pins: the last", x.fault(2, 1, 0), 10);
        Check.due("two pins: none behind", x.fault(2, 2, 0), NONE);
        x.gate(0, 0, NONE, NONE);
        Check.due("one pin: the last", x.fault(4, 0, 0), 20);
        Check.due("one pin: none behind", x.fault(4, 1, 0), NONE);
        x.source(false);
        x.gate(0, 5, 5, 5);
        Check.due("a source behind gates has no pin", x.fault(5, 0, 0), NONE);
        Check.due("the gate behind it has", x.fault(6, 0, 0), 26);
        x.clear();
        for (int line = 0; line < 4; line++) {
            x.source(true);
            Check.due("nor has one where a gate stood", x.fault(line, 0, 0), NONE);
        }
        Check.due("nor has it faults of pins", x.count(3), 8);
    }

    private static void faultAtBothEnds() {
        Check.sentence("Promise 11: Of a fault: what = 0 its line (for a pin, that of its gate), 1 its pin (NONE for a "
            + "line), 2 at what it is stuck.");
        for (Stage stage : Stage.values()) {
            for (int fault = 0; fault < stage.faults; fault++) {
                StuckLines x = stage.make();
                int line = x.faultAt(fault, 0);
                int pin = x.faultAt(fault, 1);
                Check.due(stage + ": a pin's fault comes behind", pin == NONE ? 1 : 0, fault < 2 * stage.lines ? 1 : 0);
                Check.due(stage + ": stuck at", x.faultAt(fault, 2), fault % 2);
                Check.due(stage + ": its number", x.fault(line, pin, fault % 2), fault);
            }
        }
        StuckLines x = Stage.ONE_SOURCE.make();
        int[][] due = {{0, 0, NONE}, {51, 25, NONE}, {52, 1, 0}, {57, 1, 2}, {58, 2, 0}, {201, 25, 2}};
        for (int[] row : due) {
            Check.due("line of " + row[0], x.faultAt(row[0], 0), row[1]);
            Check.due("pin of " + row[0], x.faultAt(row[0], 1), row[2]);
        }
    }

    private static void faultAtNoSuchFault() {
        Check.sentence("Promise 11: IndexOutOfBoundsException when there is no such fault");
        for (Stage stage : Stage.values()) {
            for (int what = 0; what <= 2; what++) {
                int asked = what;
                for (int fault : outside(stage.faults)) {
                    Check.dueRefused("faultAt(" + fault + ")", stage, Check.INDEX, x -> x.faultAt(fault, asked));
                }
                Check.dueRefused("faultAt(NONE)", stage, Check.INDEX, x -> x.faultAt(NONE, asked));
            }
        }
    }

    private static void faultAtNothing() {
        Check.sentence("Promise 11: IllegalArgumentException when what is none of these.");
        for (Stage stage : Stage.values()) {
            for (int what : new int[] {-1, 3, -2, 4, LEAST, GREATEST}) {
                if (stage.faults == 0) {
                    Check.dueRefused("faultAt of none, " + what, stage, Check.INDEX, x -> x.faultAt(0, what));
                } else {
                    Check.dueRefused("faultAt, " + what, stage, Check.ARGUMENT, x -> x.faultAt(0, what));
                    Check.dueRefused("faultAt, " + what, stage, Check.ARGUMENT, x -> x.faultAt(stage.faults - 1, what));
                }
            }
        }
    }

    private static void leastOfAll() {
        Check.sentence("Promise 12: The least vector that shows a fault");
        StuckLines x = Stage.FULL.make();
        Check.due("the first fault", x.least(0), 1);
        Check.due("vector 0", x.least(1), 0);
        Check.due("the last fault but one", x.least(170), 56);
        StuckLines and = withSources(6);
        and.gate(0, 0, 1, 2);
        and.gate(0, 3, 4, 5);
        and.gate(0, 6, 7, NONE);
        and.output(8);
        Check.due("the last vector", and.least(0), 63);
        Check.due("the last vector but one", and.least(1), 62);
        for (int sources = 1; sources <= 6; sources++) {
            StuckLines last = withSources(sources);
            last.output(sources - 1);
            Check.due("the last source at 0", last.least(2 * sources - 2), 1 << sources - 1);
            Check.due("the last source at 1", last.least(2 * sources - 1), 0);
        }
    }

    private static void leastOfAHiddenFault() {
        Check.sentence("Promise 12: NONE when it is hidden.");
        Check.due("the last fault of the full one", Stage.FULL.make().least(171), NONE);
        Check.due("the last fault but one of the most", Stage.ONE_SOURCE.make().least(200), NONE);
        for (int sources = 1; sources <= 6; sources++) {
            StuckLines x = withSources(sources);
            for (int fault = 0; fault < 2 * sources; fault++) {
                Check.due("nothing is observed", x.least(fault), NONE);
            }
        }
    }

    private static void leastOfNoSuchFault() {
        Check.sentence("Promise 12: IndexOutOfBoundsException when there is no such fault.");
        for (Stage stage : Stage.values()) {
            for (int fault : outside(stage.faults)) {
                Check.dueRefused("least(" + fault + ")", stage, Check.INDEX, x -> x.least(fault));
            }
            Check.dueRefused("least(NONE)", stage, Check.INDEX, x -> x.least(NONE));
        }
    }

    private static void showingBits() {
        Check.sentence("Promise 13: All vectors that show a fault, bit v for vector v.");
        for (int sources = 1; sources <= 6; sources++) {
            StuckLines x = withSources(sources);
            int always0 = x.gate(4, 0, 0, NONE);
            x.output(always0);
            long all = sources == 6 ? -1L : (1L << (1 << sources)) - 1;
            Check.due("every vector, and no bit behind the last", x.showing(x.fault(always0, NONE, 1)), all);
            Check.due("no vector", x.showing(x.fault(always0, NONE, 0)), 0);
            x.output(sources - 1);
            long upper = all << (1 << sources - 1) & all;
            Check.due("the upper half", x.showing(2 * sources - 2), upper);
            Check.due("the lower half", x.showing(2 * sources - 1), all & ~upper);
        }
        StuckLines full = Stage.FULL.make();
        Check.due("the last eight vectors", full.showing(170), 0xFF00000000000000L);
        Check.due("a hidden one", full.showing(171), 0);
        Check.due("the odd vectors", full.showing(0), 0xAAAAAAAAAAAAAAAAL);
        Check.due("after clear", Stage.REBUILT.make().showing(0), 2 + 8);
    }

    private static void showingOfNoSuchFault() {
        Check.sentence("Promise 13: IndexOutOfBoundsException when there is no such fault.");
        for (Stage stage : Stage.values()) {
            for (int fault : outside(stage.faults)) {
                Check.dueRefused("showing(" + fault + ")", stage, Check.INDEX, x -> x.showing(fault));
            }
            Check.dueRefused("showing(NONE)", stage, Check.INDEX, x -> x.showing(NONE));
        }
    }

    private static void alikeToItself() {
        Check.sentence("Promise 14: The least fault that a fault is alike to (itself, if there is none before).");
        for (Stage stage : Stage.values()) {
            if (stage.faults > 0) {
                Check.due(stage + ": the first fault", stage.make().alike(0), 0);
            }
        }
        StuckLines none = withSources(6);
        for (int fault = 0; fault < 12; fault++) {
            Check.due("all hidden: the first one", none.alike(fault), 0);
        }
        StuckLines each = withSources(6);
        for (int line = 0; line < 6; line++) {
            each.output(line);
        }
        for (int fault = 0; fault < 12; fault++) {
            Check.due("none alike: itself", each.alike(fault), fault);
        }
        StuckLines full = Stage.FULL.make();
        Check.due("the last one is hidden, as line 7 at 1 is", full.alike(171), 15);
        Check.due("the last but one is as the last gate at 0", full.alike(170), 50);
        StuckLines one = Stage.ONE_SOURCE.make();
        Check.due("the last one of the most: as the last line at 1", one.alike(201), 51);
        Check.due("the last but one: as the first pin at 0", one.alike(200), 52);
    }

    private static void alikeToNoSuchFault() {
        Check.sentence("Promise 14: IndexOutOfBoundsException when there is no such fault.");
        for (Stage stage : Stage.values()) {
            for (int fault : outside(stage.faults)) {
                Check.dueRefused("alike(" + fault + ")", stage, Check.INDEX, x -> x.alike(fault));
            }
            Check.dueRefused("alike(NONE)", stage, Check.INDEX, x -> x.alike(NONE));
        }
    }
}
