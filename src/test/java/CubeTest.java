/** Promises 15 and 16: ternary, cube. */
public final class CubeTest {
    private static final int NONE = StuckLines.NONE;
    private static final int OPEN = 2;

    public static void main(String[] args) {
        gatesOfOpenPins();
        stuckSites();
        noThoughtAcrossGates();
        wrongCubes();
        widening();
        wideningIsInOrder();
        wideningWithSixSources();
        Check.finish();
    }

    /** All states of three sources, by the words of the document. */
    private static void gatesOfOpenPins() {
        for (int pins = 1; pins <= 3; pins++) {
            StuckLines x = new StuckLines();
            x.source(false);
            x.source(true);
            x.source(false);
            for (int kind = 0; kind < 6; kind++) {
                x.gate(kind, 0, pins > 1 ? 1 : NONE, pins > 2 ? 2 : NONE);
            }
            for (int states = 0; states < 27; states++) {
                int[] state = {states % 3, states / 3 % 3, states / 9};
                int open = 0;
                int ones = 0;
                int[] among = new int[3];
                for (int i = 0; i < 3; i++) {
                    open |= state[i] == OPEN ? 1 << i : 0;
                    ones |= state[i] == 1 ? 1 << i : 0;
                    among[state[i]] += i < pins ? 1 : 0;
                }
                int and = among[0] > 0 ? 0 : among[OPEN] > 0 ? OPEN : 1;
                int or = among[1] > 0 ? 1 : among[OPEN] > 0 ? OPEN : 0;
                int xor = among[OPEN] > 0 ? OPEN : among[1] % 2;
                int[] due = {and, not(and), or, not(or), xor, not(xor)};
                for (int kind = 0; kind < 6; kind++) {
                    Check.due("kind " + kind + ", " + pins + " pins, states " + states,
                        x.ternary(open, ones, 3 + kind, NONE), due[kind]);
                }
            }
        }
    }

    private static int not(int state) {
        return state == OPEN ? OPEN : 1 - state;
    }

    private static void stuckSites() {
        StuckLines x = new StuckLines();
        x.source(false);
        x.source(false);
        x.gate(4, 0, 1, NONE);
        x.gate(0, 2, 0, NONE);
        Check.due("an open source that is stuck", x.ternary(1, 0, 0, x.fault(0, NONE, 1)), 1);
        Check.due("what reads it", x.ternary(1, 0, 2, x.fault(0, NONE, 1)), 1);
        Check.due("a stuck pin of an open line", x.ternary(1, 2, 2, x.fault(2, 0, 1)), 0);
        Check.due("the open line is open", x.ternary(1, 2, 0, x.fault(2, 0, 1)), OPEN);
        Check.due("another pin of that line is open", x.ternary(1, 0, 3, x.fault(2, 0, 1)), OPEN);
        Check.due("a stuck pin decides", x.ternary(3, 0, 3, x.fault(3, 1, 0)), 0);
        Check.due("a stuck gate", x.ternary(3, 0, 2, x.fault(2, NONE, 0)), 0);
        Check.due("a stuck gate decides", x.ternary(3, 0, 3, x.fault(2, NONE, 0)), 0);
        Check.due("a stuck gate that does not decide", x.ternary(3, 0, 3, x.fault(2, NONE, 1)), OPEN);
    }

    private static void noThoughtAcrossGates() {
        StuckLines x = new StuckLines();
        x.source(false);
        x.gate(1, 0, NONE, NONE);
        x.gate(0, 0, 1, NONE);
        x.gate(4, 0, 0, NONE);
        Check.due("a line and its contrary", x.ternary(1, 0, 2, NONE), OPEN);
        Check.due("a line twice", x.ternary(1, 0, 3, NONE), OPEN);
        Check.due("not open", x.ternary(0, 1, 2, NONE), 0);
    }

    private static void wrongCubes() {
        StuckLines x = new StuckLines();
        x.source(false);
        x.source(true);
        x.gate(2, 0, 1, NONE);
        x.output(2);
        x.log(0, 0);
        Check.dueUnchanged("ternary, no such line or fault", x, Check.INDEX,
            () -> x.ternary(0, 0, 3, NONE), () -> x.ternary(0, 0, NONE, NONE), () -> x.ternary(0, 0, 0, 10),
            () -> x.ternary(0, 0, 0, -2), () -> x.ternary(4, 0, 3, NONE), () -> x.ternary(1, 1, 0, 10),
            () -> x.ternary(-1, -1, Integer.MIN_VALUE, 0), () -> x.ternary(0, 0, 0, Integer.MAX_VALUE));
        Check.dueUnchanged("ternary, no such cube", x, Check.ARGUMENT,
            () -> x.ternary(4, 0, 0, NONE), () -> x.ternary(0, 4, 0, NONE), () -> x.ternary(-1, 0, 0, NONE),
            () -> x.ternary(0, -1, 0, NONE), () -> x.ternary(1, 1, 0, NONE), () -> x.ternary(2, 3, 0, 9),
            () -> x.ternary(Integer.MIN_VALUE, 0, 0, NONE), () -> x.ternary(0, Integer.MIN_VALUE, 0, NONE));
        Check.due("all open", x.ternary(3, 0, 2, NONE), OPEN);
        Check.due("the log after them", x.forget(), 1);
    }

    private static void widening() {
        StuckLines x = new StuckLines();
        x.source(false);
        x.source(false);
        x.source(false);
        x.gate(0, 0, 1, NONE);
        x.gate(2, 3, 2, NONE);
        x.output(4);
        Check.due("the least vector is 3, nothing may be open", x.cube(x.fault(3, NONE, 0)), 3);
        Check.due("source 0 open, source 1 at 0 decides", x.cube(x.fault(3, NONE, 1)), 64);
        Check.due("the output stuck at 0: the AND alone decides", x.cube(x.fault(4, NONE, 0)), 64 * 4 + 3);
        Check.due("the output stuck at 1", x.cube(x.fault(4, NONE, 1)), 64);
        Check.due("source 2 stuck at 0, least is 4", x.cube(x.fault(2, NONE, 0)), 64 + 4);
        Check.due("source 0 stuck at 1, least is 2", x.cube(x.fault(0, NONE, 1)), 2);
    }

    private static void wideningIsInOrder() {
        StuckLines x = new StuckLines();
        x.source(false);
        x.source(false);
        x.gate(2, 0, 1, NONE);
        x.gate(1, 2, NONE, NONE);
        x.output(3);
        Check.due("OR stuck at 0 begins with vector 1, whose source 1 is open", x.cube(x.fault(2, NONE, 0)), 64 * 2 + 1);
        x.output(0);
        Check.due("the pin's fault is shown at the gate", x.cube(x.fault(2, 0, 0)), 1);
        Check.due("an observed source that is stuck", x.cube(x.fault(0, NONE, 0)), 64 * 2 + 1);
        StuckLines y = new StuckLines();
        y.source(false);
        y.source(false);
        y.gate(0, 0, 1, NONE);
        y.output(2);
        Check.due("the first source is open, so the second must stay", y.cube(y.fault(2, NONE, 1)), 64);
    }

    private static void wideningWithSixSources() {
        StuckLines x = new StuckLines();
        for (int i = 0; i < 6; i++) {
            x.source(i % 2 == 1);
        }
        x.gate(3, 0, 1, 2);
        x.gate(1, 3, 4, 5);
        x.gate(4, 6, 7, NONE);
        x.output(7);
        x.data(5, 5);
        Check.due("the last source alone stays", x.cube(x.fault(5, NONE, 0)), 64 * 31 + 32);
        Check.due("the first of the others", x.cube(x.fault(7, NONE, 0)), 64 * (1 + 2 + 4 + 8 + 16));
    }
}
