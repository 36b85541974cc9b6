/** The boundary cases of promises 1 to 6, a method for each sentence. */
public final class EdgeBuildingTest {
    private static final int NONE = StuckLines.NONE;
    private static final int LEAST = Stage.LEAST;
    private static final int GREATEST = Stage.GREATEST;

    public static void main(String[] args) {
        newObjectIsEmpty();
        clearedObjectIsEmpty();
        clearedObjectHasAllItsRoomAgain();
        flipFlopWithoutADataLineAtFirst();
        sourceAnswersItsLine();
        sourceRefused();
        gateAnswersItsLine();
        gateWithPinsLeftOut();
        gateOfNoKind();
        gateWithoutAPin();
        gateWithAGap();
        gateOfNoSuchLine();
        gateRefused();
        outputAnswersHowMany();
        outputOfNoSuchLine();
        outputTwiceOrTooMany();
        dataLineOfAnyKind();
        dataLineInPlaceOfAnother();
        dataOfNoSuchLine();
        dataOfNoFlipFlop();
        Check.finish();
    }

    private static void dueEmpty(String what, StuckLines x) {
        for (int i = 0; i <= 5; i++) {
            Check.due(what + ": count(" + i + ")", x.count(i), 0);
        }
        Check.due(what + ": response(0, NONE)", x.response(0, NONE), 0);
        Check.dueThrow(what + ": response(1, NONE)", Check.INDEX, () -> x.response(1, NONE));
        Check.dueThrow(what + ": response(0, 0)", Check.INDEX, () -> x.response(0, 0));
        Check.dueThrow(what + ": value(0, 0, NONE)", Check.INDEX, () -> x.value(0, 0, NONE));
        Check.dueThrow(what + ": ternary(0, 0, 0, NONE)", Check.INDEX, () -> x.ternary(0, 0, 0, NONE));
        Check.due(what + ": fault(0, NONE, 0)", x.fault(0, NONE, 0), NONE);
        Check.due(what + ": packed(0)", x.packed(0), NONE);
        Check.due(what + ": explains(NONE)", x.explains(NONE), 1);
        Check.due(what + ": explains(0)", x.explains(0), NONE);
        Check.due(what + ": forget()", x.forget(), 0);
    }

    private static void newObjectIsEmpty() {
        Check.sentence("Promise 1: No lines, an empty log.");
        dueEmpty("new", new StuckLines());
        StuckLines other = Stage.FULL.make();
        dueEmpty("new beside a full one", new StuckLines());
        Check.due("the full one is as it was", other.count(0), 26);
        Check.due("its log, too", other.forget(), 16);
        Check.due("the first row of the log", new StuckLines().log(0, 0), 1);
        Check.due("the first line", new StuckLines().source(true), 0);
    }

    private static void clearedObjectIsEmpty() {
        Check.sentence("Promise 2: No lines, an empty log.");
        for (Stage stage : Stage.values()) {
            StuckLines x = stage.make();
            x.clear();
            dueEmpty(stage + ", cleared", x);
            x.clear();
            dueEmpty(stage + ", cleared twice", x);
        }
        StuckLines logged = new StuckLines();
        logged.log(0, 1);
        logged.clear();
        Check.due("a log without lines is cleared, too", logged.explains(NONE), 1);
        Check.due("its first row", logged.log(0, 0), 1);
    }

    private static void clearedObjectHasAllItsRoomAgain() {
        Check.sentence("Promise 2: No lines");
        StuckLines x = Stage.FULL.make();
        x.clear();
        for (int i = 0; i < 6; i++) {
            Check.due("a source", x.source(false), i);
        }
        for (int line = 6; line < 26; line++) {
            Check.due("a gate", x.gate(5, line - 1, NONE, NONE), line);
        }
        for (int i = 0; i < 6; i++) {
            Check.due("an output, one before clear, too", x.output(25 - i), i + 1);
        }
        for (int i = 0; i < 6; i++) {
            int line = i;
            Check.dueThrow("an input where a flip-flop was", Check.ARGUMENT, () -> data(x, line, line));
        }
        Check.due("no data line is left", x.count(2), 6);
        Check.due("no pin is left", x.count(3), 2 * (26 + 20));
        for (int row = 1; row <= 16; row++) {
            Check.due("a row", x.log(63, 0), row);
        }
        for (Stage stage : new Stage[] {Stage.SMALL, Stage.REBUILT}) {
            StuckLines built = stage.make();
            Check.due(stage + ": count(0)", built.count(0), 4);
            Check.due(stage + ": count(2)", built.count(2), 2);
            Check.due(stage + ": count(3)", built.count(3), 18);
            Check.due(stage + ": response(1, NONE)", built.response(1, NONE), 2);
            Check.due(stage + ": response(3, NONE)", built.response(3, NONE), 3);
        }
        Check.dueText("built where another one stood", Stage.REBUILT.picture(Stage.REBUILT.make()),
            Stage.SMALL.picture(Stage.SMALL.make()));
    }

    private static long data(StuckLines x, int flop, int line) {
        x.data(flop, line);
        return 0;
    }

    private static void flipFlopWithoutADataLineAtFirst() {
        Check.sentence("Promise 3: A new source, an input or a flip-flop (without a data line at first)");
        StuckLines x = new StuckLines();
        for (int i = 0; i < 6; i++) {
            x.source(true);
            Check.due("count(2)", x.count(2), 0);
        }
        for (int i = 0; i < 6; i++) {
            x.data(i, i);
        }
        x.clear();
        x.source(true);
        x.source(true);
        x.output(1);
        Check.due("nor after clear, where one stood that had one", x.count(2), 1);
        x.data(1, 1);
        Check.due("the other one's", x.count(2), 2);
        x.clear();
        x.source(false);
        x.gate(0, 0, NONE, NONE);
        x.output(1);
        Check.due("nor has a gate or an input", x.count(2), 1);
    }

    private static void sourceAnswersItsLine() {
        Check.sentence("Promise 3: answers its line.");
        StuckLines x = new StuckLines();
        Check.due("the first line", x.source(false), 0);
        for (int line = 1; line < 25; line++) {
            Check.due("a gate", x.gate(0, line - 1, NONE, NONE), line);
        }
        Check.due("the last line", x.source(true), 25);
        Check.due("it is source 1", x.value(2, 25, NONE), 1);
        Check.due("count(1)", x.count(1), 2);
    }

    private static void sourceRefused() {
        Check.sentence("Promise 3: IllegalStateException when there are 6 sources, or 26 lines.");
        for (boolean flop : new boolean[] {false, true}) {
            Check.dueRefused("source, 6 sources and 26 lines", Stage.FULL, Check.STATE, x -> x.source(flop));
            Check.dueRefused("source, 1 source and 26 lines", Stage.ONE_SOURCE, Check.STATE, x -> x.source(flop));
            for (Stage stage : new Stage[] {Stage.NEW, Stage.CLEARED, Stage.SMALL, Stage.REBUILT}) {
                StuckLines x = stage.make();
                for (int i = stage.sources; i < 6; i++) {
                    Check.due(stage + ": source " + i, x.source(flop), stage.lines + i - stage.sources);
                }
                x.log(63, 7);
                Check.dueThrow(stage + ": 6 sources", Check.STATE, () -> x.source(flop));
                Check.due(stage + ": count(0) after it", x.count(0), stage.lines + 6 - stage.sources);
                Check.due(stage + ": count(1) after it", x.count(1), 6);
                Check.due(stage + ": the log after it", x.forget(), 1);
                Check.due(stage + ": a gate after it", x.gate(0, 0, NONE, NONE), stage.lines + 6 - stage.sources);
                Check.dueThrow(stage + ": 6 sources and a gate", Check.STATE, () -> x.source(flop));
            }
            StuckLines five = new StuckLines();
            for (int line = 0; line < 25; line++) {
                Check.due("a line", line < 5 ? five.source(flop) : five.gate(0, 0, NONE, NONE), line);
            }
            Check.due("a sixth source that is line 25", five.source(flop), 25);
            Check.dueThrow("both are full now", Check.STATE, () -> five.source(flop));
        }
    }

    private static void gateAnswersItsLine() {
        Check.sentence("Promise 4: A new gate whose pins read lines a, b, c");
        StuckLines x = new StuckLines();
        for (int i = 0; i < 6; i++) {
            x.source(false);
        }
        for (int line = 6; line < 26; line++) {
            Check.due("a gate of the first and the last lines", x.gate(4, 0, line - 1, line - 2), line);
        }
        int[] values = new int[26];
        values[5] = 1;
        for (int line = 6; line < 26; line++) {
            values[line] = values[0] ^ values[line - 1] ^ values[line - 2];
            Check.due("what it makes of them", x.value(32, line, NONE), values[line]);
        }
    }

    private static void gateWithPinsLeftOut() {
        Check.sentence("Promise 4: (NONE where it has none: then those behind are NONE, too)");
        for (Stage stage : new Stage[] {Stage.SMALL, Stage.REBUILT}) {
            StuckLines x = stage.make();
            Check.due(stage + ": one pin", x.gate(0, 3, NONE, NONE), 4);
            Check.due(stage + ": two pins", x.gate(0, 3, 0, NONE), 5);
            Check.due(stage + ": three pins", x.gate(0, 3, 0, 1), 6);
            int[] pins = {0, 0, 2, 3, 1, 2, 3};
            for (int line = 0; line < 7; line++) {
                Check.due(stage + ": its last pin", x.fault(line, pins[line] - 1, 0) == NONE ? 0 : 1, 1);
                Check.due(stage + ": no pin behind", x.fault(line, pins[line], 0), NONE);
            }
        }
    }

    /** A line that is there, or NONE on an empty circuit. */
    private static int someLine(Stage stage) {
        return stage.lines - 1;
    }

    private static void gateOfNoKind() {
        Check.sentence("Promise 4: IllegalArgumentException when kind is not 0 .. 5");
        for (Stage stage : Stage.values()) {
            for (int kind : new int[] {-1, 6, 7, LEAST, GREATEST}) {
                int line = Math.max(0, someLine(stage));
                Check.dueRefused("gate of kind " + kind, stage, Check.ARGUMENT, x -> x.gate(kind, line, NONE, NONE));
                Check.dueRefused("gate of kind " + kind, stage, Check.ARGUMENT, x -> x.gate(kind, line, line, line));
            }
        }
        for (int kind = 0; kind <= 5; kind++) {
            Check.due("kind " + kind, Stage.SMALL.make().gate(kind, 3, NONE, NONE), 4);
        }
    }

    private static void gateWithoutAPin() {
        Check.sentence("Promise 4: IllegalArgumentException when .. a is NONE");
        for (Stage stage : Stage.values()) {
            int line = Math.max(0, someLine(stage));
            int[][] pairs = {{NONE, NONE}, {line, NONE}, {line, line}, {NONE, line}, {LEAST, GREATEST}};
            for (int[] behind : pairs) {
                Check.dueRefused("gate whose a is NONE", stage, Check.ARGUMENT,
                    x -> x.gate(0, NONE, behind[0], behind[1]));
            }
        }
    }

    private static void gateWithAGap() {
        Check.sentence("Promise 4: IllegalArgumentException when .. b is NONE and c is not");
        for (Stage stage : Stage.values()) {
            for (int a : new int[] {0, LEAST, GREATEST}) {
                for (int c : new int[] {0, someLine(stage) + 1, -2, LEAST, GREATEST}) {
                    Check.dueRefused("gate(0, " + a + ", NONE, " + c + ")", stage, Check.ARGUMENT,
                        x -> x.gate(0, a, NONE, c));
                }
            }
        }
    }

    private static void gateOfNoSuchLine() {
        Check.sentence("Promise 4: IndexOutOfBoundsException when there is no such line");
        for (Stage stage : Stage.values()) {
            for (int line : new int[] {stage.lines, stage.lines + 1, 26, -2, LEAST, GREATEST}) {
                String what = "gate of line " + line;
                Check.dueRefused(what + " alone", stage, Check.INDEX, x -> x.gate(0, line, NONE, NONE));
                Check.dueRefused(what + " as a", stage, Check.INDEX, x -> x.gate(5, line, 0, 0));
                Check.dueRefused(what + " as b", stage, Check.INDEX, x -> x.gate(0, 0, line, NONE));
                Check.dueRefused(what + " as b before c", stage, Check.INDEX, x -> x.gate(0, 0, line, 0));
                Check.dueRefused(what + " as c", stage, Check.INDEX, x -> x.gate(0, 0, 0, line));
            }
        }
        Check.due("the last line in all pins", Stage.SMALL.make().gate(0, 3, 3, 3), 4);
        Check.due("the first line in all pins", Stage.SMALL.make().gate(0, 0, 0, 0), 4);
    }

    private static void gateRefused() {
        Check.sentence("Promise 4: IllegalStateException when there are 26 lines.");
        for (Stage stage : new Stage[] {Stage.FULL, Stage.ONE_SOURCE}) {
            for (int kind = 0; kind <= 5; kind++) {
                int k = kind;
                Check.dueRefused("gate of kind " + k, stage, Check.STATE, x -> x.gate(k, 25, NONE, NONE));
                Check.dueRefused("gate of kind " + k, stage, Check.STATE, x -> x.gate(k, 0, 25, NONE));
                Check.dueRefused("gate of kind " + k, stage, Check.STATE, x -> x.gate(k, 0, 12, 25));
            }
            StuckLines x = stage.make();
            x.clear();
            x.source(false);
            Check.due("after clear there is room", x.gate(0, 0, NONE, NONE), 1);
        }
        StuckLines x = new StuckLines();
        x.source(false);
        for (int line = 1; line < 25; line++) {
            x.gate(0, 0, NONE, NONE);
        }
        Check.due("with 25 lines", x.gate(0, 24, 24, 24), 25);
        Check.dueThrow("with 26 lines", Check.STATE, () -> x.gate(0, 24, 24, 24));
    }

    private static void outputAnswersHowMany() {
        Check.sentence("Promise 5: A line becomes an output; answers how many there are.");
        StuckLines x = new StuckLines();
        x.source(true);
        x.source(true);
        x.gate(0, 0, 1, NONE);
        x.data(0, 2);
        x.data(1, 2);
        Check.due("data lines are not counted", x.output(2), 1);
        Check.due("nor those that came later", x.output(0), 2);
        Check.due("count(2) counts all", x.count(2), 4);
        Check.due("the last one", x.output(1), 3);
        x.clear();
        x.source(false);
        Check.due("after clear", x.output(0), 1);
    }

    private static void outputOfNoSuchLine() {
        Check.sentence("Promise 5: IndexOutOfBoundsException when there is no such line");
        for (Stage stage : Stage.values()) {
            for (int line : new int[] {stage.lines, stage.lines + 1, 26, NONE, -2, LEAST, GREATEST}) {
                Check.dueRefused("output(" + line + ")", stage, Check.INDEX, x -> x.output(line));
            }
        }
        Check.due("the first line", Stage.SMALL.make().output(0), 2);
        Check.due("the last line", Stage.SMALL.make().output(3), 2);
    }

    private static void outputTwiceOrTooMany() {
        Check.sentence("Promise 5: IllegalStateException when it is one, or there are 6.");
        Check.dueRefused("the only output", Stage.SMALL, Check.STATE, x -> x.output(2));
        Check.dueRefused("the only output", Stage.REBUILT, Check.STATE, x -> x.output(2));
        for (Stage stage : new Stage[] {Stage.FULL, Stage.ONE_SOURCE}) {
            for (int line = 0; line < 26; line++) {
                int again = line;
                Check.dueRefused("output(" + line + ")", stage, Check.STATE, x -> x.output(again));
            }
        }
        StuckLines x = new StuckLines();
        for (int line = 0; line < 6; line++) {
            x.source(true);
        }
        x.data(3, 5);
        for (int line = 0; line < 5; line++) {
            x.output(line);
        }
        for (int line = 0; line < 5; line++) {
            int again = line;
            Check.dueThrow("one of five", Check.STATE, () -> x.output(again));
        }
        Check.due("a data line is no output: the sixth", x.output(5), 6);
    }

    private static void dataLineOfAnyKind() {
        Check.sentence("Promise 6: A flip-flop (told by its line) gets a data line (any, its own, too)");
        for (int line = 0; line < 26; line++) {
            StuckLines x = new StuckLines();
            x.source(false);
            x.source(false);
            x.gate(1, 0, NONE, NONE);
            x.source(true);
            for (int gate = 4; gate < 26; gate++) {
                x.gate(gate % 6, gate - 1, gate - 3, NONE);
            }
            x.data(3, line);
            Check.due("count(2)", x.count(2), 1);
            for (int vector = 0; vector < 8; vector++) {
                Check.due("data line " + line, x.response(vector, NONE), x.value(vector, line, NONE));
            }
        }
    }

    private static void dataLineInPlaceOfAnother() {
        Check.sentence("Promise 6: in place of one that it has");
        StuckLines x = Stage.FULL.make();
        for (int flop = 0; flop < 6; flop++) {
            x.data(flop, 5 - flop);
            Check.due("count(2)", x.count(2), 12);
        }
        Check.due("the bits are those of the flip-flops", x.response(1, NONE), 64 * 32);
        Check.due("the bits are those of the flip-flops", x.response(32, NONE), 64);
        x.data(2, 3);
        Check.due("the same one again", x.count(2), 12);
        StuckLines y = Stage.REBUILT.make();
        y.data(1, 1);
        y.data(1, 3);
        y.data(1, 0);
        Check.due("only the last one counts", y.count(2), 2);
        Check.due("only the last one counts", y.response(1, NONE), 2);
        Check.due("only the last one counts", y.response(2, NONE), 0);
    }

    private static void dataOfNoSuchLine() {
        Check.sentence("Promise 6: IndexOutOfBoundsException when there is no such line");
        for (Stage stage : Stage.values()) {
            int flop = stage.sources - 1;
            for (int line : new int[] {stage.lines, stage.lines + 1, 26, NONE, -2, LEAST, GREATEST}) {
                Check.dueRefused("data of a flip-flop and " + line, stage, Check.INDEX, x -> data(x, flop, line));
                Check.dueRefused("data of " + line + " and a line", stage, Check.INDEX, x -> data(x, line, 0));
                Check.dueRefused("data of " + line + " twice", stage, Check.INDEX, x -> data(x, line, line));
            }
        }
    }

    private static void dataOfNoFlipFlop() {
        Check.sentence("Promise 6: IllegalArgumentException when flop is no flip-flop's.");
        for (Stage stage : new Stage[] {Stage.SMALL, Stage.REBUILT}) {
            Check.dueRefused("data of an input", stage, Check.ARGUMENT, x -> data(x, 0, 1));
            Check.dueRefused("data of a gate", stage, Check.ARGUMENT, x -> data(x, 2, 1));
            Check.dueRefused("data of the last line", stage, Check.ARGUMENT, x -> data(x, 3, 3));
        }
        for (int gate = 6; gate < 26; gate++) {
            int line = gate;
            Check.dueRefused("data of a gate", Stage.FULL, Check.ARGUMENT, x -> data(x, line, 0));
        }
        StuckLines last = new StuckLines();
        last.source(false);
        for (int line = 1; line < 25; line++) {
            last.gate(0, 0, NONE, NONE);
        }
        last.source(true);
        Check.dueThrow("the line before the flip-flop", Check.ARGUMENT, () -> data(last, 24, 25));
        last.data(25, 24);
        Check.due("the last line is the flip-flop's", last.count(2), 1);
    }
}
