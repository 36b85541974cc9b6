/** The boundary cases of promises 17 to 20, a method for each sentence. */
public final class EdgeSetAndLogTest {
    private static final int NONE = StuckLines.NONE;
    private static final int LEAST = Stage.LEAST;
    private static final int GREATEST = Stage.GREATEST;

    public static void main(String[] args) {
        packedFromTheFirstToTheLast();
        packedOfNoSuch();
        logOfOneVectorManyTimes();
        logAnswersHowMany();
        logOfNoSuchVector();
        logOfNoSuchResponse();
        logRefused();
        forgetEmptyAndFull();
        explainedByTheKthFault();
        emptyLogIsExplainedByAll();
        explainedByNoSuch();
        explainedWithoutAFault();
        Check.finish();
    }

    private static int[] setOf(Stage stage) {
        switch (stage) {
            case SMALL:
            case REBUILT:
                return new int[] {1, 0, 2, 3};
            case ONE_SOURCE:
                return new int[] {1, 0};
            case FULL:
                return new int[] {1, 2, 4, 56, 48};
            default:
                return new int[0];
        }
    }

    private static void packedFromTheFirstToTheLast() {
        Check.sentence("Promise 17: Vector k (from 0) of the set, those left out not counted");
        for (Stage stage : Stage.values()) {
            StuckLines x = stage.make();
            int[] set = setOf(stage);
            for (int k = set.length - 1; k >= 0; k--) {
                Check.due(stage + ": packed(" + k + ")", x.packed(k), set[k]);
            }
        }
        StuckLines and = new StuckLines();
        for (int i = 0; i < 6; i++) {
            and.source(false);
        }
        and.gate(0, 0, 1, 2);
        and.gate(0, 3, 4, 5);
        and.gate(0, 6, 7, NONE);
        and.output(8);
        int[] set = {63, 62, 61, 59, 55, 47, 31, NONE};
        for (int k = 0; k < set.length; k++) {
            Check.due("AND of six: packed(" + k + ")", and.packed(k), set[k]);
        }
        StuckLines cleared = Stage.CLEARED.make();
        cleared.source(false);
        cleared.source(false);
        cleared.output(0);
        cleared.output(1);
        Check.due("after clear, 0 is left out of 1, 0, 2", cleared.packed(0), 1);
        Check.due("after clear", cleared.packed(1), 2);
        Check.due("after clear", cleared.packed(2), NONE);
    }

    private static void packedOfNoSuch() {
        Check.sentence("Promise 17: NONE when there is none such.");
        for (Stage stage : Stage.values()) {
            StuckLines x = stage.make();
            int size = setOf(stage).length;
            for (int k : new int[] {size, size + 1, 63, 64, 65, NONE, -2, LEAST, GREATEST}) {
                Check.due(stage + ": packed(" + k + ")", x.packed(k), NONE);
            }
        }
        StuckLines hidden = new StuckLines();
        hidden.source(false);
        Check.due("all faults are hidden", hidden.packed(0), NONE);
    }

    private static void logOfOneVectorManyTimes() {
        Check.sentence("Promise 18: A vector and the response that was seen come to the log (a vector may be there "
            + "already, with another response, too)");
        StuckLines x = Stage.REBUILT.make();
        x.forget();
        Check.due("a vector", x.log(3, 3), 1);
        Check.due("the same once more", x.log(3, 3), 2);
        Check.due("both are explained", x.explains(NONE), 1);
        Check.due("with another response", x.log(3, 2), 3);
        Check.due("nothing explains all", x.explains(NONE), 0);
        Check.due("nothing explains all", x.explains(0), NONE);
        Check.due("forget", x.forget(), 3);
        Check.due("the other response alone", x.log(3, 2), 1);
        Check.due("is what source 0 at 0 gives", x.explains(0), 0);
    }

    private static void logAnswersHowMany() {
        Check.sentence("Promise 18: answers how many it has.");
        for (Stage stage : Stage.values()) {
            StuckLines x = stage.make();
            for (int row = stage.rows + 1; row <= 16; row++) {
                Check.due(stage + ": row " + row, x.log(0, 0), row);
            }
            Check.due(stage + ": forget", x.forget(), 16);
            Check.due(stage + ": the first row again", x.log(stage.vectors() - 1, 4095), 1);
            x.clear();
            Check.due(stage + ": the first row after clear", x.log(0, 0), 1);
        }
    }

    private static void logOfNoSuchVector() {
        Check.sentence("Promise 18: IndexOutOfBoundsException when there is no such vector");
        for (Stage stage : Stage.values()) {
            int n = stage.vectors();
            for (int vector : new int[] {n, n + 1, 64, 4095, -1, -2, LEAST, GREATEST}) {
                Check.dueRefused("log(" + vector + ", 0)", stage, Check.INDEX, x -> x.log(vector, 0));
                Check.dueRefused("log(" + vector + ", -1)", stage, Check.INDEX, x -> x.log(vector, -1));
            }
            StuckLines x = stage.make();
            x.forget();
            Check.due(stage + ": the first vector", x.log(0, 0), 1);
            Check.due(stage + ": the last vector", x.log(n - 1, 0), 2);
        }
    }

    private static void logOfNoSuchResponse() {
        Check.sentence("Promise 18: IllegalArgumentException when response is not 0 .. 2^12 - 1");
        for (Stage stage : Stage.values()) {
            for (int response : new int[] {-1, 4096, 4097, -2, 8191, LEAST, GREATEST}) {
                Check.dueRefused("log(0, " + response + ")", stage, Check.ARGUMENT, x -> x.log(0, response));
            }
            StuckLines x = stage.make();
            x.forget();
            Check.due(stage + ": the least response", x.log(0, 0), 1);
            Check.due(stage + ": the greatest response", x.log(0, 4095), 2);
        }
    }

    private static void logRefused() {
        Check.sentence("Promise 18: IllegalStateException when there are 16.");
        for (Stage stage : Stage.values()) {
            StuckLines x = stage.make();
            x.forget();
            for (int row = 1; row <= 16; row++) {
                Check.due(stage + ": row " + row, x.log(0, 0), row);
            }
            Check.dueThrow(stage + ": row 17", Check.STATE, () -> x.log(0, 0));
            Check.dueThrow(stage + ": row 17, another response", Check.STATE, () -> x.log(0, 4095));
            Check.due(stage + ": the log is as it was", x.explains(NONE), 1);
            Check.due(stage + ": it has 16", x.forget(), 16);
        }
        for (Stage stage : new Stage[] {Stage.FULL, Stage.ONE_SOURCE}) {
            Check.dueRefused("row 17, the first vector", stage, Check.STATE, x -> x.log(0, 4095));
            Check.dueRefused("row 17, the last vector", stage, Check.STATE, x -> x.log(stage.vectors() - 1, 0));
        }
    }

    private static void forgetEmptyAndFull() {
        Check.sentence("Promise 19: The log is empty; answers how many there were.");
        for (Stage stage : Stage.values()) {
            StuckLines x = stage.make();
            Check.due(stage + ": forget", x.forget(), stage.rows);
            Check.due(stage + ": forget again", x.forget(), 0);
            Check.due(stage + ": lines are as they were", x.count(0), stage.lines);
            x.log(0, 4095);
            Check.due(stage + ": one row that nothing explains", x.explains(NONE), 0);
            Check.due(stage + ": forget it", x.forget(), 1);
            Check.due(stage + ": the empty log", x.explains(NONE), 1);
            x.clear();
            Check.due(stage + ": forget after clear", x.forget(), 0);
        }
    }

    private static void explainedByTheKthFault() {
        Check.sentence("Promise 20: The k-th fault (from 0) that explains the log, by number");
        StuckLines x = Stage.ONE_SOURCE.make();
        x.forget();
        x.log(0, 127);
        // Only the lines before the first output, and that one, make all observed lines 1: 0 .. 20 at 1, and pins.
        for (int k = 0; k <= 20; k++) {
            Check.due("line " + k + " at 1", x.explains(k), 2 * k + 1);
        }
        for (int k = 21; k < 21 + 60; k++) {
            Check.due("a pin at 1", x.explains(k), 52 + 2 * (k - 21) + 1);
        }
        Check.due("no more", x.explains(81), NONE);
        x.forget();
        x.log(0, 96);
        Check.due("the last line's last fault", x.explains(0), 51);
        Check.due("the first pin of the last gate", x.explains(1), 197);
        Check.due("the last fault", x.explains(3), 201);
        Check.due("no more", x.explains(4), NONE);
    }

    private static void emptyLogIsExplainedByAll() {
        Check.sentence("Promise 20: (an empty one all explain)");
        for (Stage stage : Stage.values()) {
            StuckLines x = stage.make();
            x.forget();
            for (int k = 0; k < stage.faults; k++) {
                Check.due(stage + ": explains(" + k + ")", x.explains(k), k);
            }
            Check.due(stage + ": no more", x.explains(stage.faults), NONE);
            Check.due(stage + ": without a fault", x.explains(NONE), 1);
        }
    }

    private static void explainedByNoSuch() {
        Check.sentence("Promise 20: NONE when there is none such");
        for (Stage stage : Stage.values()) {
            StuckLines x = stage.make();
            for (int k : new int[] {stage.faults, stage.faults + 1, -2, -3, LEAST, LEAST + 1, GREATEST}) {
                Check.due(stage + ": explains(" + k + ")", x.explains(k), NONE);
            }
            x.forget();
            for (int k : new int[] {stage.faults, stage.faults + 1, -2, -3, LEAST, LEAST + 1, GREATEST}) {
                Check.due(stage + ", empty log: explains(" + k + ")", x.explains(k), NONE);
            }
            x.log(0, 4095);
            x.log(0, 0);
            for (int k : new int[] {0, 1, stage.faults, -2, LEAST, GREATEST}) {
                Check.due(stage + ", two responses: explains(" + k + ")", x.explains(k), NONE);
            }
        }
    }

    private static void explainedWithoutAFault() {
        Check.sentence("Promise 20: for k = NONE: whether the circuit without a fault does, 1 or 0.");
        for (Stage stage : Stage.values()) {
            StuckLines x = stage.make();
            Check.due(stage + ": as it was built", x.explains(NONE), 1);
            x.forget();
            int last = stage.vectors() - 1;
            int response = x.response(last, NONE);
            x.log(last, response);
            Check.due(stage + ": the response", x.explains(NONE), 1);
            x.log(last, response ^ 2048);
            Check.due(stage + ": another one", x.explains(NONE), 0);
        }
        StuckLines empty = Stage.CLEARED.make();
        empty.log(0, 0);
        Check.due("no line, no fault", empty.explains(0), NONE);
        Check.due("no line, explained", empty.explains(NONE), 1);
        empty.log(0, 1);
        Check.due("no line, not explained", empty.explains(NONE), 0);
    }
}
