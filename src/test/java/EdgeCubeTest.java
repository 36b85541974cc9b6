/** The boundary cases of promises 15 and 16, a method for each sentence. */
public final class EdgeCubeTest {
    private static final int NONE = StuckLines.NONE;
    private static final int LEAST = Stage.LEAST;
    private static final int GREATEST = Stage.GREATEST;
    private static final int OPEN = 2;

    public static void main(String[] args) {
        ternaryFromNoneToAllOpen();
        ternaryWithAndWithout();
        ternaryOfNoSuchLine();
        ternaryOfNoSuchFault();
        ternaryOfOthersThanSources();
        ternaryOfASourceInBoth();
        cubeFromLeastToGreatest();
        cubeOfAHiddenFault();
        cubeOfNoSuchFault();
        Check.finish();
    }

    private static StuckLines withSources(int sources) {
        StuckLines x = new StuckLines();
        for (int i = 0; i < sources; i++) {
            x.source(i % 2 == 1);
        }
        return x;
    }

    private static void ternaryFromNoneToAllOpen() {
        Check.sentence("Promise 15: The value of a line (0, 1, or 2 for open) with a cube, by two sums of 2^i: of the "
            + "sources that are open, and of those that are 1");
        for (int sources = 1; sources <= 6; sources++) {
            StuckLines x = withSources(sources);
            int all = (1 << sources) - 1;
            for (int line = 0; line < sources; line++) {
                Check.due("no sum", x.ternary(0, 0, line, NONE), 0);
                Check.due("all open", x.ternary(all, 0, line, NONE), OPEN);
                Check.due("all 1", x.ternary(0, all, line, NONE), 1);
                Check.due("it alone is open", x.ternary(1 << line, all - (1 << line), line, NONE), OPEN);
                Check.due("it alone is 1", x.ternary(all - (1 << line), 1 << line, line, NONE), 1);
                Check.due("it alone is 0", x.ternary(all - (1 << line), 0, line, NONE), 0);
            }
        }
    }

    private static void ternaryWithAndWithout() {
        Check.sentence("Promise 15: with a fault, or without (NONE)");
        StuckLines x = Stage.FULL.make();
        Check.due("the last line, open", x.ternary(56, 7, 25, NONE), OPEN);
        Check.due("the last line, one 0 decides", x.ternary(48, 7, 25, NONE), 0);
        Check.due("the last line, the others open", x.ternary(7, 56, 25, NONE), 1);
        Check.due("the first fault", x.ternary(63, 0, 0, 0), 0);
        Check.due("the first fault, another line", x.ternary(63, 0, 1, 0), OPEN);
        Check.due("the last line's last fault", x.ternary(63, 0, 25, 51), 1);
        Check.due("the last fault but one decides", x.ternary(63, 0, 25, 170), 0);
        Check.due("the last fault does not", x.ternary(63, 0, 25, 171), OPEN);
        StuckLines one = Stage.ONE_SOURCE.make();
        Check.due("the last fault of the most decides", one.ternary(1, 0, 25, 201), 1);
        Check.due("the last but one does not", one.ternary(1, 0, 25, 200), OPEN);
        StuckLines built = Stage.REBUILT.make();
        Check.due("after clear", built.ternary(1, 0, 2, NONE), 0);
        Check.due("after clear", built.ternary(1, 2, 2, NONE), OPEN);
        Check.due("after clear, the last fault", built.ternary(0, 0, 3, 17), 1);
    }

    private static void ternaryOfNoSuchLine() {
        Check.sentence("Promise 15: IndexOutOfBoundsException when there is no such line");
        for (Stage stage : Stage.values()) {
            for (int line : new int[] {stage.lines, stage.lines + 1, 26, NONE, -2, LEAST, GREATEST}) {
                Check.dueRefused("ternary of line " + line, stage, Check.INDEX, x -> x.ternary(0, 0, line, NONE));
            }
        }
    }

    private static void ternaryOfNoSuchFault() {
        Check.sentence("Promise 15: IndexOutOfBoundsException when there is no such .. fault");
        for (Stage stage : Stage.values()) {
            for (int fault : new int[] {stage.faults, stage.faults + 1, 2 * stage.faults + 300, -2, LEAST, GREATEST}) {
                Check.dueRefused("ternary with fault " + fault, stage, Check.INDEX, x -> x.ternary(0, 0, 0, fault));
            }
        }
    }

    private static void ternaryOfOthersThanSources() {
        Check.sentence("Promise 15: IllegalArgumentException when a sum is of others than sources");
        for (Stage stage : Stage.values()) {
            for (int sum : new int[] {stage.vectors(), stage.vectors() + 1, 64, 1 << 30, -1, -2, LEAST, GREATEST}) {
                Class<? extends RuntimeException> due = stage.lines == 0 ? Check.INDEX : Check.ARGUMENT;
                Check.dueRefused("ternary, open " + sum, stage, due, x -> x.ternary(sum, 0, 0, NONE));
                Check.dueRefused("ternary, ones " + sum, stage, due, x -> x.ternary(0, sum, 0, NONE));
                Check.dueRefused("ternary, both " + sum, stage, due, x -> x.ternary(sum, sum, 0, NONE));
            }
        }
        for (int sources = 1; sources <= 6; sources++) {
            StuckLines x = withSources(sources);
            int all = (1 << sources) - 1;
            Check.due("the greatest sum of open ones", x.ternary(all, 0, 0, NONE), OPEN);
            Check.due("the greatest sum of ones", x.ternary(0, all, 0, NONE), 1);
            Check.dueThrow("one more that is open", Check.ARGUMENT, () -> x.ternary(all + 1, 0, 0, NONE));
            Check.dueThrow("one more that is 1", Check.ARGUMENT, () -> x.ternary(0, all + 1, 0, NONE));
        }
    }

    private static void ternaryOfASourceInBoth() {
        Check.sentence("Promise 15: IllegalArgumentException when .. a source is in both");
        for (Stage stage : Stage.values()) {
            for (int i = 0; i < stage.sources; i++) {
                int source = 1 << i;
                int all = stage.vectors() - 1;
                Check.dueRefused("one in both", stage, Check.ARGUMENT, x -> x.ternary(source, source, 0, NONE));
                Check.dueRefused("all open, one 1", stage, Check.ARGUMENT, x -> x.ternary(all, source, 0, NONE));
                Check.dueRefused("all 1, one open", stage, Check.ARGUMENT, x -> x.ternary(source, all, 0, 0));
                int state = stage.make().ternary(all - source, source, 0, NONE);
                Check.due(stage + ": in one alone", state, i == 0 ? 1 : OPEN);
            }
        }
    }

    private static void cubeFromLeastToGreatest() {
        Check.sentence("Promise 16: The cube of a fault: 64 times the sum of 2^i for open sources, and the sum for "
            + "those that are 1");
        for (int sources = 1; sources <= 6; sources++) {
            StuckLines x = withSources(sources);
            int all = (1 << sources) - 1;
            for (int line = 0; line < sources; line++) {
                x.output(line);
                int bit = 1 << line;
                Check.due("all other sources are open, 1", x.cube(2 * line), 64 * (all - bit) + bit);
                Check.due("all other sources are open, 0", x.cube(2 * line + 1), 64 * (all - bit));
            }
        }
        StuckLines and = withSources(6);
        and.gate(0, 0, 1, 2);
        and.gate(0, 3, 4, 5);
        and.gate(0, 6, 7, NONE);
        and.output(8);
        Check.due("none is open, all are 1", and.cube(and.fault(8, NONE, 0)), 63);
        Check.due("none is open, one is 0", and.cube(and.fault(5, NONE, 1)), 31);
        Check.due("all but the last are open", and.cube(and.fault(8, NONE, 1)), 64 * 31);
        StuckLines full = Stage.FULL.make();
        Check.due("full, the first fault", full.cube(0), 64 * 62 + 1);
        Check.due("full, the last fault but one", full.cube(170), 64 * 7 + 56);
        StuckLines one = Stage.ONE_SOURCE.make();
        Check.due("one source, 1", one.cube(0), 1);
        Check.due("one source, 0", one.cube(201), 0);
        Check.due("after clear", Stage.REBUILT.make().cube(0), 1);
    }

    private static void cubeOfAHiddenFault() {
        Check.sentence("Promise 16: NONE when it is hidden.");
        Check.due("the last fault of the full one", Stage.FULL.make().cube(171), NONE);
        Check.due("the last fault but one of the most", Stage.ONE_SOURCE.make().cube(200), NONE);
        for (int sources = 1; sources <= 6; sources++) {
            StuckLines x = withSources(sources);
            for (int fault = 0; fault < 2 * sources; fault++) {
                Check.due("nothing is observed", x.cube(fault), NONE);
            }
        }
    }

    private static void cubeOfNoSuchFault() {
        Check.sentence("Promise 16: IndexOutOfBoundsException when there is no such fault.");
        for (Stage stage : Stage.values()) {
            for (int fault : new int[] {stage.faults, stage.faults + 1, 2 * stage.faults + 300, NONE, -2, LEAST,
                GREATEST}) {
                Check.dueRefused("cube(" + fault + ")", stage, Check.INDEX, x -> x.cube(fault));
            }
        }
    }
}
