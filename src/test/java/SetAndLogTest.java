/** Promises 17 to 20: packed, log, forget, explains. */
public final class SetAndLogTest {
    private static final int NONE = StuckLines.NONE;

    public static void main(String[] args) {
        setOfAnAnd();
        leftOut();
        leftOutFromTheLast();
        setOfSixSources();
        setFollowsTheCircuit();
        logGrows();
        wrongLogs();
        explaining();
        contradictions();
        Check.finish();
    }

    private static void dueSet(String what, StuckLines x, int... vectors) {
        for (int k = 0; k < vectors.length; k++) {
            Check.due(what + ": packed(" + k + ")", x.packed(k), vectors[k]);
        }
        for (int k : new int[] {vectors.length, vectors.length + 1, 64, NONE, -2, Integer.MAX_VALUE,
            Integer.MIN_VALUE}) {
            Check.due(what + ": packed(" + k + ")", x.packed(k), NONE);
        }
    }

    private static void setOfAnAnd() {
        StuckLines x = new StuckLines();
        x.source(false);
        x.source(false);
        x.gate(0, 0, 1, NONE);
        dueSet("nothing observed", x);
        x.output(2);
        // Fault 0 brings 3, fault 1 brings 2, fault 3 brings 1; they show all the others.
        dueSet("AND", x, 3, 2, 1);
    }

    private static void leftOut() {
        StuckLines x = new StuckLines();
        x.source(false);
        x.source(false);
        x.output(0);
        x.output(1);
        // Fault 0 brings 1 and fault 1 brings 0; fault 2 brings 2, which makes 0 needed no more.
        dueSet("two observed sources", x, 1, 2);
        StuckLines y = new StuckLines();
        y.source(false);
        y.output(0);
        dueSet("one observed source", y, 1, 0);
    }

    private static void leftOutFromTheLast() {
        StuckLines x = new StuckLines();
        x.source(false);
        x.source(false);
        x.gate(0, 0, 1, NONE);
        x.gate(0, 2, 0, NONE);
        x.output(0);
        x.output(1);
        x.output(3);
        // First 1, 0, 2, 3. Without 2 or without 0 all is still shown, not without both: the later one goes.
        Check.due("hidden faults ask for no vector", x.least(x.fault(2, 0, 1)), NONE);
        dueSet("2 is left out, 0 is not", x, 1, 0, 3);
    }

    private static void setOfSixSources() {
        StuckLines x = new StuckLines();
        for (int i = 0; i < 6; i++) {
            x.source(false);
        }
        x.gate(0, 0, 1, 2);
        x.gate(0, 3, 4, 5);
        x.gate(0, 6, 7, NONE);
        x.output(8);
        dueSet("AND of six", x, 63, 62, 61, 59, 55, 47, 31);
    }

    private static void setFollowsTheCircuit() {
        StuckLines x = new StuckLines();
        x.source(false);
        x.output(0);
        Check.due("at first", x.packed(0), 1);
        x.clear();
        Check.due("cleared", x.packed(0), NONE);
        x.source(false);
        x.gate(1, 0, NONE, NONE);
        x.output(1);
        dueSet("built anew", x, 1, 0);
        x.log(0, 0);
        dueSet("with a log", x, 1, 0);
    }

    private static StuckLines and() {
        StuckLines x = new StuckLines();
        x.source(false);
        x.source(true);
        x.gate(0, 0, 1, NONE);
        x.output(2);
        return x;
    }

    private static void logGrows() {
        StuckLines x = and();
        for (int i = 0; i < 16; i++) {
            Check.due("log " + i, x.log(i % 4, i % 4 == 3 ? 1 : 0), i + 1);
        }
        Check.due("explained", x.explains(NONE), 1);
        Check.dueUnchanged("a full log", x, Check.STATE, () -> x.log(0, 0), () -> x.log(3, 4095));
        Check.dueUnchanged("a full log: no such vector goes first", x, Check.INDEX, () -> x.log(4, 0));
        Check.dueUnchanged("a full log: no such response goes first", x, Check.ARGUMENT, () -> x.log(0, 4096));
        Check.due("forget", x.forget(), 16);
        Check.due("forget again", x.forget(), 0);
        Check.due("log after forget", x.log(0, 1), 1);
        Check.due("what was forgotten is gone", x.explains(0), x.fault(2, NONE, 1));
    }

    private static void wrongLogs() {
        StuckLines x = and();
        x.log(3, 0);
        Check.dueUnchanged("log, no such vector", x, Check.INDEX, () -> x.log(4, 0), () -> x.log(-1, 0),
            () -> x.log(4, -1), () -> x.log(Integer.MIN_VALUE, 4096), () -> x.log(Integer.MAX_VALUE, 0));
        Check.dueUnchanged("log, no such response", x, Check.ARGUMENT, () -> x.log(0, -1), () -> x.log(0, 4096),
            () -> x.log(3, Integer.MIN_VALUE), () -> x.log(3, Integer.MAX_VALUE));
        Check.due("log after them", x.log(0, 4095), 2);
        StuckLines empty = new StuckLines();
        Check.due("vector 0 of no lines", empty.log(0, 0), 1);
        Check.due("is explained", empty.explains(NONE), 1);
        Check.due("by no fault", empty.explains(0), NONE);
        Check.due("another response", empty.log(0, 1), 2);
        Check.due("is not", empty.explains(NONE), 0);
    }

    private static void dueExplained(String what, StuckLines x, int sound, int... faults) {
        Check.due(what + ": explains(NONE)", x.explains(NONE), sound);
        for (int k = 0; k < faults.length; k++) {
            Check.due(what + ": explains(" + k + ")", x.explains(k), faults[k]);
        }
        for (int k : new int[] {faults.length, faults.length + 1, -2, Integer.MAX_VALUE, Integer.MIN_VALUE}) {
            Check.due(what + ": explains(" + k + ")", x.explains(k), NONE);
        }
    }

    private static void explaining() {
        StuckLines x = and();
        dueExplained("an empty log", x, 1, 0, 1, 2, 3, 4, 5, 6, 7, 8, 9);
        x.log(3, 1);
        dueExplained("3 gave 1", x, 1, 1, 3, 5, 7, 9);
        x.log(1, 1);
        dueExplained("1 gave 1", x, 0, 3, 5, 9);
        x.log(1, 1);
        dueExplained("once more", x, 0, 3, 5, 9);
        x.log(2, 0);
        dueExplained("2 gave 0", x, 0, 3, 9);
        x.forget();
        x.log(3, 0);
        dueExplained("3 gave 0", x, 0, 0, 2, 4, 6, 8);
    }

    private static void contradictions() {
        StuckLines x = and();
        x.log(0, 0);
        x.log(0, 1);
        dueExplained("two responses of a vector", x, 0);
        x.forget();
        x.log(0, 2);
        dueExplained("a bit that is not observed", x, 0);
        x.gate(4, 0, 1, NONE);
        dueExplained("a log that building left empty", x, 1, 0, 1, 2, 3, 4, 5, 6, 7, 8, 9, 10, 11, 12, 13, 14, 15);
    }
}
