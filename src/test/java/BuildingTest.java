/** Promises 1 to 6: a new object, clear, source, gate, output, data. */
public final class BuildingTest {
    private static final int NONE = StuckLines.NONE;

    public static void main(String[] args) {
        newObject();
        clearing();
        sources();
        lineLimit();
        gateKinds();
        wrongGates();
        outputs();
        dataLines();
        wrongData();
        observedOrder();
        buildingEmptiesTheLog();
        Check.finish();
    }

    private static void dueEmpty(String what, StuckLines x) {
        for (int i = 0; i <= 5; i++) {
            Check.due(what + ": count(" + i + ")", x.count(i), 0);
        }
        Check.due(what + ": response(0, NONE)", x.response(0, NONE), 0);
        Check.dueThrow(what + ": response(1, NONE)", Check.INDEX, () -> x.response(1, NONE));
        Check.dueThrow(what + ": value(0, 0, NONE)", Check.INDEX, () -> x.value(0, 0, NONE));
        Check.dueThrow(what + ": least(0)", Check.INDEX, () -> x.least(0));
        Check.dueThrow(what + ": output(0)", Check.INDEX, () -> x.output(0));
        Check.due(what + ": packed(0)", x.packed(0), NONE);
        Check.due(what + ": fault(0, NONE, 0)", x.fault(0, NONE, 0), NONE);
        Check.due(what + ": explains(NONE)", x.explains(NONE), 1);
        Check.due(what + ": explains(0)", x.explains(0), NONE);
        Check.due(what + ": forget()", x.forget(), 0);
    }

    private static void newObject() {
        dueEmpty("new", new StuckLines());
    }

    private static void clearing() {
        StuckLines x = new StuckLines();
        x.clear();
        dueEmpty("new and cleared", x);
        x.source(true);
        x.gate(1, 0, 0, 0);
        x.output(1);
        x.data(0, 1);
        x.log(0, 3);
        Check.due("before clear: count(2)", x.count(2), 2);
        Check.due("before clear: packed(0)", x.packed(0), 1);
        x.clear();
        dueEmpty("cleared", x);
        Check.due("the first line after clear", x.source(false), 0);
        Check.due("the second line after clear", x.source(true), 1);
        Check.due("after clear: count(2)", x.count(2), 0);
        Check.due("after clear: count(3)", x.count(3), 4);
        Check.dueThrow("the input that stands where a flip-flop did", Check.ARGUMENT, () -> data(x, 0, 0));
        Check.due("the first output after clear", x.output(0), 1);
        x.log(1, 1);
        x.clear();
        x.source(false);
        x.gate(0, 0, NONE, NONE);
        Check.dueThrow("the gate that stands where a flip-flop did", Check.ARGUMENT, () -> data(x, 1, 0));
        x.clear();
        x.clear();
        dueEmpty("cleared twice", x);
    }

    private static long data(StuckLines x, int flop, int line) {
        x.data(flop, line);
        return 0;
    }

    private static void sources() {
        StuckLines x = new StuckLines();
        Check.due("source 0", x.source(false), 0);
        Check.due("source 1", x.source(true), 1);
        Check.due("a gate between sources", x.gate(0, 0, 1, NONE), 2);
        Check.due("source 2", x.source(false), 3);
        Check.due("source 3", x.source(true), 4);
        Check.due("source 4", x.source(false), 5);
        Check.due("source 5", x.source(false), 6);
        Check.due("count(1)", x.count(1), 6);
        Check.due("a flip-flop has no data line at first", x.count(2), 0);
        Check.due("source 2 is bit 2 of a vector, line 3", x.value(4, 3, NONE), 1);
        Check.due("line 2 is no source", x.value(4, 2, NONE), 0);
        Check.due("the last source", x.value(32, 6, NONE), 1);
        x.log(63, 0);
        Check.dueUnchanged("a seventh source", x, Check.STATE, () -> x.source(false), () -> x.source(true));
        Check.due("the log is as it was", x.forget(), 1);
    }

    private static void lineLimit() {
        StuckLines x = new StuckLines();
        x.source(false);
        x.source(true);
        for (int line = 2; line < 26; line++) {
            Check.due("line " + line, x.gate(line % 6, line - 1, line - 2, 0), line);
        }
        Check.due("count(0)", x.count(0), 26);
        Check.due("count(3)", x.count(3), 2 * (26 + 24 * 3));
        x.output(25);
        x.log(0, 4095);
        Check.dueThrow("line 26, a source", Check.STATE, () -> x.source(false));
        Check.dueThrow("line 26, a gate", Check.STATE, () -> x.gate(0, 0, 1, 25));
        Check.dueThrow("a full circuit: the wrong kind goes first", Check.ARGUMENT, () -> x.gate(6, 0, 1, 2));
        Check.dueThrow("a full circuit: the missing pin goes first", Check.ARGUMENT, () -> x.gate(0, 0, NONE, 2));
        Check.dueThrow("a full circuit: the wrong line goes first", Check.INDEX, () -> x.gate(0, 0, 1, 26));
        Check.due("count(0) after them", x.count(0), 26);
        Check.due("count(1) after them", x.count(1), 2);
        Check.due("count(3) after them", x.count(3), 2 * (26 + 24 * 3));
        Check.due("the log after them", x.forget(), 1);
    }

    /** The answers follow from how many of the pins are 1. */
    private static void gateKinds() {
        for (int pins = 1; pins <= 3; pins++) {
            StuckLines x = new StuckLines();
            x.source(false);
            x.source(false);
            x.source(false);
            for (int kind = 0; kind < 6; kind++) {
                Check.due("a gate's line", x.gate(kind, 0, pins > 1 ? 1 : NONE, pins > 2 ? 2 : NONE), 3 + kind);
            }
            for (int vector = 0; vector < 8; vector++) {
                int ones = Integer.bitCount(vector & ((1 << pins) - 1));
                int[] due = {ones == pins ? 1 : 0, ones == pins ? 0 : 1, ones > 0 ? 1 : 0, ones > 0 ? 0 : 1,
                    ones % 2, 1 - ones % 2};
                for (int kind = 0; kind < 6; kind++) {
                    Check.due("kind " + kind + " with " + pins + " pins at " + vector,
                        x.value(vector, 3 + kind, NONE), due[kind]);
                }
            }
        }
    }

    private static void wrongGates() {
        StuckLines x = new StuckLines();
        x.source(false);
        x.source(true);
        x.output(1);
        x.log(2, 1);
        Check.dueUnchanged("gate, wrong arguments", x, Check.ARGUMENT,
            () -> x.gate(-1, 0, 1, NONE), () -> x.gate(6, 0, 1, NONE), () -> x.gate(Integer.MIN_VALUE, 0, 1, NONE),
            () -> x.gate(0, NONE, NONE, NONE), () -> x.gate(0, NONE, 1, NONE), () -> x.gate(0, 0, NONE, 1),
            () -> x.gate(0, 0, NONE, 99), () -> x.gate(9, 99, NONE, NONE), () -> x.gate(0, NONE, 99, 99),
            () -> x.gate(0, 0, NONE, -2), () -> x.gate(0, 77, NONE, 0));
        Check.dueUnchanged("gate, wrong lines", x, Check.INDEX,
            () -> x.gate(0, 2, NONE, NONE), () -> x.gate(0, 0, 2, NONE), () -> x.gate(0, 0, 1, 2),
            () -> x.gate(0, -2, NONE, NONE), () -> x.gate(0, 0, -2, NONE), () -> x.gate(0, 0, 0, -2),
            () -> x.gate(0, Integer.MAX_VALUE, 0, 0), () -> x.gate(0, 0, Integer.MIN_VALUE, 0));
        Check.due("the next line", x.gate(5, 0, 0, 1), 2);
    }

    private static void outputs() {
        StuckLines x = new StuckLines();
        for (int i = 0; i < 6; i++) {
            x.source(false);
        }
        x.gate(0, 0, 1, NONE);
        int[] order = {6, 0, 5, 1, 4, 2};
        for (int i = 0; i < 6; i++) {
            Check.due("output " + i, x.output(order[i]), i + 1);
            int again = order[i];
            Check.dueThrow("an output once more", Check.STATE, () -> x.output(again));
        }
        Check.due("count(2)", x.count(2), 6);
        Check.due("bits by the order of the outputs", x.response(1 + 2 + 32, NONE), 1 + 2 + 4 + 8);
        Check.due("bits by the order of the outputs", x.response(4 + 16, NONE), 16 + 32);
        x.log(0, 0);
        Check.dueThrow("a seventh output", Check.STATE, () -> x.output(3));
        Check.dueThrow("no such line goes first", Check.INDEX, () -> x.output(7));
        Check.dueThrow("no such line", Check.INDEX, () -> x.output(NONE));
        Check.dueThrow("no such line", Check.INDEX, () -> x.output(Integer.MIN_VALUE));
        Check.due("count(2) after them", x.count(2), 6);
        Check.due("the log after them", x.forget(), 1);
        StuckLines y = new StuckLines();
        y.source(false);
        y.output(0);
        y.log(1, 0);
        Check.dueUnchanged("an output twice", y, Check.STATE, () -> y.output(0));
        Check.dueUnchanged("an output without a line", y, Check.INDEX, () -> y.output(1), () -> y.output(-1));
    }

    private static void dataLines() {
        StuckLines x = new StuckLines();
        int input = x.source(false);
        int flop = x.source(true);
        int not = x.gate(1, input, NONE, NONE);
        x.data(flop, not);
        Check.due("count(2) with a data line", x.count(2), 1);
        Check.due("the data line is observed", x.response(0, NONE), 1);
        Check.due("the data line is observed", x.response(1, NONE), 0);
        x.data(flop, flop);
        Check.due("count(2) with another one in its place", x.count(2), 1);
        Check.due("its own line", x.response(1, NONE), 0);
        Check.due("its own line", x.response(2, NONE), 1);
        x.data(flop, input);
        Check.due("an input", x.response(1, NONE), 1);
        x.output(input);
        Check.due("observed twice", x.count(2), 2);
        Check.due("observed twice", x.response(1, NONE), 3);
    }

    private static void wrongData() {
        StuckLines x = new StuckLines();
        x.source(false);
        x.source(true);
        x.gate(0, 0, 1, NONE);
        x.data(1, 2);
        x.log(3, 1);
        Check.dueUnchanged("data, no such line", x, Check.INDEX,
            () -> data(x, 1, 3), () -> data(x, 1, NONE), () -> data(x, 3, 0), () -> data(x, NONE, 0),
            () -> data(x, 0, 3), () -> data(x, 2, -5), () -> data(x, Integer.MAX_VALUE, Integer.MIN_VALUE));
        Check.dueUnchanged("data, no flip-flop", x, Check.ARGUMENT, () -> data(x, 0, 0), () -> data(x, 2, 2));
        Check.due("the log after them", x.forget(), 1);
    }

    private static void observedOrder() {
        StuckLines x = new StuckLines();
        for (int i = 0; i < 6; i++) {
            x.source(true);
        }
        // The later flip-flop gets its data line first, and an output comes behind: the order is another one.
        x.data(4, 0);
        x.data(2, 1);
        x.output(3);
        Check.due("count(2)", x.count(2), 3);
        Check.due("the output is first", x.response(8, NONE), 1);
        Check.due("then flip-flop 2", x.response(2, NONE), 2);
        Check.due("then flip-flop 4", x.response(1, NONE), 4);
        int[] others = {0, 1, 2, 4, 5};
        for (int line : others) {
            x.output(line);
        }
        for (int i = 0; i < 6; i++) {
            x.data(i, 5 - i);
        }
        Check.due("all that can be observed", x.count(2), 12);
        Check.due("the greatest response", x.response(63, NONE), 4095);
        Check.due("line 0 is output 1 and the data line of the last flip-flop", x.response(1, NONE), 2 + 2048);
        Check.due("a greatest response can be seen", x.log(63, 4095), 1);
        Check.due("and explained", x.explains(NONE), 1);
    }

    private static void buildingEmptiesTheLog() {
        StuckLines x = new StuckLines();
        x.source(true);
        x.log(0, 7);
        x.source(false);
        Check.due("the log after source", x.log(3, 7), 1);
        x.gate(0, 0, NONE, NONE);
        Check.due("the log after gate", x.log(3, 7), 1);
        x.output(0);
        Check.due("the log after output", x.log(3, 7), 1);
        x.data(0, 1);
        Check.due("the log after data", x.log(3, 7), 1);
        x.data(0, 1);
        Check.due("the log after data that changes nothing else", x.log(3, 7), 1);
        Check.due("asking leaves the log alone", x.count(5) + x.packed(0) + x.log(3, 7), x.count(5) + x.packed(0) + 2);
    }
}
