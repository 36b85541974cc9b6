/** The boundary cases that "What it is" and "Terms" name, a method for each sentence. */
public final class EdgeTermsTest {
    private static final int NONE = StuckLines.NONE;
    private static final int OPEN = 2;

    public static void main(String[] args) {
        atMost512Calls();
        atMost26Lines();
        atMost6Sources();
        oneToThreePins();
        pinsReadLinesBefore();
        kindsOfOnePin();
        kindsOfThreePins();
        atMost6OutputsEachOnce();
        dataLinesByFlipFlops();
        vectorsByTheNumberOfSources();
        responsesFromNoneToAll();
        sitesFromTheFirstToTheLast();
        stuckForAllThatReadIt();
        aResponseIsAnotherOne();
        hiddenFromEveryVector();
        alikeForEachVector();
        oneOpenPinAndOneThatDecides();
        someObservedLineIsTheContrary();
        openFromThenOn();
        aSetBeginsWithNone();
        leftOutFromTheLastToTheFirst();
        atMost16Rows();
        eachOfTheseResponses();
        theCircuitAsItIs();
        buildingLeavesTheLogEmpty();
        aCallThatThrowsChangesNothing();
        theOneNamedFirst();
        Check.finish();
    }

    private static StuckLines withSources(int sources) {
        StuckLines x = new StuckLines();
        for (int i = 0; i < sources; i++) {
            x.source(false);
        }
        return x;
    }

    private static void atMost512Calls() {
        Check.sentence("An object is used for at most 512 calls after it has been made");
        StuckLines asked = Stage.FULL.make();
        for (int call = 54; call < 511; call++) {
            asked.response(call % 64, call % 172);
        }
        Check.due("call 512, after questions", asked.packed(4), 48);
        StuckLines built = new StuckLines();
        for (int call = 0; call < 510; call += 2) {
            Check.due("source after clear", built.source(true), 0);
            built.clear();
        }
        built.source(false);
        Check.due("call 512, after building", built.count(0), 1);
        StuckLines refused = new StuckLines();
        for (int call = 0; call < 511; call++) {
            Check.dueThrow("a refused call", Check.INDEX, () -> refused.output(0));
        }
        Check.due("call 512, after refused calls", refused.source(false), 0);
        StuckLines logged = withSources(1);
        for (int call = 1; call < 511; call += 2) {
            Check.due("log after forget", logged.log(1, 0), 1);
            Check.due("forget", logged.forget(), 1);
        }
        Check.due("call 512, after the log", logged.log(0, 0), 1);
    }

    private static void atMost26Lines() {
        Check.sentence("A CIRCUIT has LINES 0, 1, .. (at most 26)");
        StuckLines x = new StuckLines();
        for (int time = 0; time < 2; time++) {
            Check.due("line 0", x.source(false), 0);
            for (int line = 1; line < 26; line++) {
                Check.due("a line", x.gate(1, line - 1, NONE, NONE), line);
            }
            Check.due("count(0)", x.count(0), 26);
            Check.due("the last line", x.value(0, 25, NONE), 1);
            Check.dueThrow("the 27th line, a gate", Check.STATE, () -> x.gate(1, 25, NONE, NONE));
            Check.dueThrow("the 27th line, an input", Check.STATE, () -> x.source(false));
            Check.dueThrow("the 27th line, a flip-flop", Check.STATE, () -> x.source(true));
            Check.due("count(0) after them", x.count(0), 26);
            x.clear();
        }
        Check.due("count(0) after clear", x.count(0), 0);
    }

    private static void atMost6Sources() {
        Check.sentence("INPUTS and FLIP-FLOPS (at most 6 together, the SOURCES, counted 0, 1, .. by themselves, too)");
        for (int flops = 0; flops < 64; flops++) {
            StuckLines x = new StuckLines();
            for (int i = 0; i < 6; i++) {
                Check.due("a source", x.source((flops >> i & 1) == 1), 2 * i);
                x.gate(0, 0, NONE, NONE);
            }
            Check.due("count(1)", x.count(1), 6);
            Check.dueThrow("a seventh, an input", Check.STATE, () -> x.source(false));
            Check.dueThrow("a seventh, a flip-flop", Check.STATE, () -> x.source(true));
            for (int i = 0; i < 6; i++) {
                Check.due("source " + i + " is bit " + i, x.value(1 << i, 2 * i, NONE), 1);
                Check.due("source " + i + " is no other bit", x.value(63 - (1 << i), 2 * i, NONE), 0);
            }
        }
    }

    private static void oneToThreePins() {
        Check.sentence("A gate has a KIND and one to three PINS 0, 1, 2");
        StuckLines x = withSources(1);
        x.gate(0, 0, NONE, NONE);
        x.gate(0, 0, 0, NONE);
        x.gate(0, 0, 0, 0);
        int fault = 8;
        for (int gate = 0; gate <= 3; gate++) {
            for (int pin = 0; pin <= 3; pin++) {
                Check.due("pin " + pin + " of line " + gate, x.fault(gate, pin, 0), pin < gate ? fault : NONE);
                fault += pin < gate ? 2 : 0;
            }
        }
        Check.due("count(3)", x.count(3), 2 * (4 + 6));
        Check.dueThrow("no pin", Check.ARGUMENT, () -> x.gate(0, NONE, NONE, NONE));
    }

    private static void pinsReadLinesBefore() {
        Check.sentence("each of which reads a line that was there before it");
        StuckLines x = withSources(2);
        for (int line = 2; line < 26; line++) {
            int own = line;
            Check.dueThrow("pin 0 at its own line", Check.INDEX, () -> x.gate(0, own, 0, 1));
            Check.dueThrow("pin 1 at its own line", Check.INDEX, () -> x.gate(0, 0, own, 1));
            Check.dueThrow("pin 2 at its own line", Check.INDEX, () -> x.gate(0, 0, 1, own));
            Check.due("the line before in one pin", x.gate(2, line % 3 == 0 ? line - 1 : 0,
                line % 3 == 1 ? line - 1 : 0, line % 3 == 2 ? line - 1 : 0), line);
        }
        StuckLines none = new StuckLines();
        Check.dueThrow("no line is there", Check.INDEX, () -> none.gate(0, 0, NONE, NONE));
    }

    private static void kindsOfOnePin() {
        Check.sentence("with one pin, 0, 2 and 4 are that, 1, 3 and 5 its contrary");
        StuckLines x = withSources(1);
        for (int kind = 0; kind <= 5; kind++) {
            int line = x.gate(kind, 0, NONE, NONE);
            Check.due("kind " + kind + " of 0", x.value(0, line, NONE), kind % 2);
            Check.due("kind " + kind + " of 1", x.value(1, line, NONE), 1 - kind % 2);
            Check.due("kind " + kind + " of an open one", x.ternary(1, 0, line, NONE), OPEN);
        }
    }

    private static void kindsOfThreePins() {
        Check.sentence("XOR of three is 1 when one or three of them are");
        StuckLines x = withSources(3);
        x.gate(4, 0, 1, 2);
        x.gate(5, 0, 1, 2);
        int[] due = {0, 1, 1, 0, 1, 0, 0, 1};
        for (int vector = 0; vector < 8; vector++) {
            Check.due("XOR at " + vector, x.value(vector, 3, NONE), due[vector]);
            Check.due("XNOR at " + vector, x.value(vector, 4, NONE), 1 - due[vector]);
        }
        x.gate(4, 0, 0, 0);
        x.gate(4, 0, 0, 1);
        Check.due("one line three times", x.value(1, 5, NONE), 1);
        Check.due("one line twice", x.value(3, 6, NONE), 1);
        Check.due("one line twice", x.value(1, 6, NONE), 0);
    }

    private static void atMost6OutputsEachOnce() {
        Check.sentence("OBSERVED are at most 6 lines that were named as OUTPUTS (each once), in that order");
        StuckLines x = withSources(6);
        x.gate(0, 5, NONE, NONE);
        int[] order = {6, 3, 0, 4, 1, 2};
        for (int time = 0; time < 2; time++) {
            for (int i = 0; i < 6; i++) {
                int line = order[i];
                Check.due("output " + i, x.output(line), i + 1);
                Check.dueThrow("the same line again", Check.STATE, () -> x.output(line));
            }
            Check.dueThrow("a seventh output", Check.STATE, () -> x.output(5));
            Check.due("count(2)", x.count(2), 6);
            for (int k = 1; k < 6; k++) {
                Check.due("bit " + k, x.response(1 << order[k], NONE), 1 << k);
            }
            Check.due("bit 0", x.response(32, NONE), 1);
            x.clear();
            for (int i = 0; i < 6; i++) {
                x.source(false);
            }
            x.gate(0, 5, NONE, NONE);
            Check.due("no outputs after clear", x.count(2), 0);
        }
    }

    private static void dataLinesByFlipFlops() {
        Check.sentence("and then the DATA lines of the flip-flops that have one, by flip-flops (a line may so be "
            + "observed more than once)");
        StuckLines x = new StuckLines();
        for (int i = 0; i < 6; i++) {
            x.source(true);
        }
        int observed = 0;
        for (int flop : new int[] {5, 3, 4, 0, 2, 1}) {
            x.data(flop, flop);
            observed++;
            Check.due("count(2)", x.count(2), observed);
            // As no flip-flop without a data line has a bit, the greatest one has the highest of the bits.
            Check.due("the last flip-flop's bit", x.response(32, NONE), 1 << observed - 1);
        }
        x.output(0);
        for (int flop = 0; flop < 6; flop++) {
            x.data(flop, 0);
        }
        Check.due("one line is observed seven times", x.count(2), 7);
        Check.due("it is 1", x.response(1, NONE), 127);
        Check.due("it is 0", x.response(62, NONE), 0);
    }

    private static void vectorsByTheNumberOfSources() {
        Check.sentence("A VECTOR of a circuit with n sources is 0 .. 2^n - 1: bit i is the value of source i.");
        for (int sources = 0; sources <= 6; sources++) {
            StuckLines x = withSources(sources);
            int vectors = 1 << sources;
            Check.due("the first vector", x.response(0, NONE), 0);
            Check.due("the last vector", x.response(vectors - 1, NONE), 0);
            for (int i = 0; i < sources; i++) {
                Check.due("bit of the first vector", x.value(0, i, NONE), 0);
                Check.due("bit of the last vector", x.value(vectors - 1, i, NONE), 1);
                Check.due("bit of its own vector", x.value(1 << i, i, NONE), 1);
            }
            for (int vector : new int[] {vectors, -1, 2 * vectors, Stage.GREATEST, Stage.LEAST}) {
                String what = "vector " + vector + " of " + sources + " sources";
                Check.dueThrow(what + ", response", Check.INDEX, () -> x.response(vector, NONE));
                Check.dueThrow(what + ", log", Check.INDEX, () -> x.log(vector, 0));
                Check.dueThrow(what + ", value", Check.INDEX, () -> x.value(vector, 0, NONE));
            }
            Check.due("the first vector in the log", x.log(0, 0), 1);
            Check.due("the last vector in the log", x.log(vectors - 1, 0), 2);
        }
    }

    private static void responsesFromNoneToAll() {
        Check.sentence("The RESPONSE is the sum of 2^k for each observed line k that is 1.");
        StuckLines x = new StuckLines();
        Check.due("no line", x.response(0, NONE), 0);
        for (int i = 0; i < 6; i++) {
            x.source(true);
        }
        Check.due("no observed line", x.response(63, NONE), 0);
        for (int i = 0; i < 6; i++) {
            x.output(i);
            x.data(i, i);
        }
        for (int vector = 0; vector < 64; vector++) {
            Check.due("twelve observed lines", x.response(vector, NONE), 65 * vector);
        }
        Check.due("the greatest response but for one bit twice", x.response(63, x.fault(5, NONE, 0)), 4095 - 65 * 32);
        Check.due("with a fault only", x.response(0, x.fault(5, NONE, 1)), 65 * 32);
    }

    private static void sitesFromTheFirstToTheLast() {
        Check.sentence("SITES: all lines by their numbers, then all pins, by the numbers of their gates and then "
            + "their own. Fault 2 s + v: site s is STUCK at v");
        StuckLines x = Stage.ONE_SOURCE.make();
        Check.due("count(3)", x.count(3), 202);
        Check.due("the first line", x.fault(0, NONE, 0), 0);
        Check.due("the last line", x.fault(25, NONE, 1), 51);
        Check.due("the first pin", x.fault(1, 0, 0), 52);
        Check.due("the last pin of the first gate", x.fault(1, 2, 1), 57);
        Check.due("the first pin of the second gate", x.fault(2, 0, 0), 58);
        Check.due("the last pin", x.fault(25, 2, 1), 201);
        Check.due("the last line's last fault", x.faultAt(51, 1), NONE);
        Check.due("the first pin's first fault", x.faultAt(52, 1), 0);
        StuckLines later = withSources(1);
        Check.due("count(3) of one line", later.count(3), 2);
        later.gate(0, 0, 0, NONE);
        Check.due("a pin's fault", later.fault(1, 0, 0), 4);
        later.source(false);
        Check.due("a line more moves it", later.fault(1, 0, 0), 6);
    }

    private static void stuckForAllThatReadIt() {
        Check.sentence("a line is v for all that read it, and where it is observed; a pin reads v");
        StuckLines x = new StuckLines();
        x.source(true);
        for (int line = 1; line < 26; line++) {
            x.gate(0, 0, NONE, NONE);
        }
        x.output(0);
        x.output(1);
        x.output(25);
        x.data(0, 0);
        for (int v = 0; v < 2; v++) {
            int line = x.fault(0, NONE, v);
            int pin = x.fault(25, 0, v);
            for (int read = 0; read < 26; read++) {
                Check.due("a line that reads it", x.value(1 - v, read, line), v);
                Check.due("only its own pin", x.value(1 - v, read, pin), read == 25 ? v : 1 - v);
            }
            Check.due("observed in all places", x.response(1 - v, line), v * 15);
            Check.due("observed behind the pin", x.response(1 - v, pin), v == 1 ? 4 : 15 - 4);
        }
    }

    private static void aResponseIsAnotherOne() {
        Check.sentence("A vector SHOWS a fault if the response with it is another one than that without.");
        StuckLines x = withSources(6);
        for (int i = 0; i < 6; i++) {
            x.output(i);
        }
        for (int i = 0; i < 6; i++) {
            Check.due("the one bit that is another", x.showing(2 * i), shownAtOne(i));
            Check.due("the one bit that is another", x.showing(2 * i + 1), ~shownAtOne(i));
        }
        StuckLines twice = withSources(2);
        twice.gate(4, 0, 1, NONE);
        twice.gate(4, 0, 1, NONE);
        twice.output(2);
        twice.output(3);
        Check.due("two bits are others", twice.showing(0), 8 + 2);
        Check.due("one bit is another", twice.showing(twice.fault(3, 1, 0)), 8 + 4);
    }

    private static long shownAtOne(int source) {
        long all = 0;
        for (int vector = 0; vector < 64; vector++) {
            all |= (vector >> source & 1L) << vector;
        }
        return all;
    }

    private static void hiddenFromEveryVector() {
        Check.sentence("A fault is HIDDEN if no vector shows it.");
        StuckLines x = withSources(6);
        x.gate(0, 0, 1, 2);
        x.gate(0, 3, 4, 5);
        x.gate(0, 6, 7, NONE);
        Check.due("hidden, as nothing is observed", x.least(x.fault(8, NONE, 0)), NONE);
        Check.due("all are", x.count(4), 0);
        x.output(8);
        Check.due("one vector, the last one, is enough", x.least(x.fault(8, NONE, 0)), 63);
        x.clear();
        x.source(false);
        x.gate(2, 0, 0, NONE);
        x.output(1);
        Check.due("a pin beside one that reads the same line, stuck at 0", x.least(x.fault(1, 0, 0)), NONE);
        Check.due("stuck at 1", x.least(x.fault(1, 0, 1)), 0);
    }

    private static void alikeForEachVector() {
        Check.sentence("Two faults are ALIKE when their responses are the same for each vector.");
        for (int kind = 0; kind <= 2; kind += 2) {
            StuckLines x = withSources(6);
            x.gate(kind, 0, 1, 2);
            x.gate(kind, 3, 4, 5);
            x.gate(kind, 6, 7, NONE);
            x.gate(kind, 0, NONE, NONE);
            x.output(8);
            // Nothing observes line 9. The other fault is shown by one vector alone, the last or the first one.
            int hidden = x.fault(9, NONE, 0);
            int shownOnce = x.fault(0, NONE, kind / 2);
            Check.due("shown by one vector", x.showing(shownOnce), kind == 0 ? Long.MIN_VALUE : 1L);
            Check.due("one vector tells them apart", x.alike(hidden), hidden);
            Check.due("the same for each vector", x.alike(x.fault(9, 0, 1)), hidden);
            Check.due("the same for each vector", x.alike(x.fault(8, NONE, kind / 2)), shownOnce);
        }
        StuckLines y = withSources(2);
        y.output(0);
        y.output(1);
        y.gate(4, 0, 1, NONE);
        y.output(2);
        Check.due("the same vectors show it", y.showing(y.fault(2, 0, 0)), y.showing(0));
        Check.due("the responses are others", y.alike(y.fault(2, 0, 0)), y.fault(2, 0, 0));
    }

    private static void oneOpenPinAndOneThatDecides() {
        Check.sentence("when one of them alone decides (a 0 for AND and NAND, a 1 for OR and NOR), otherwise open if a "
            + "pin is, as is a kind 4 or 5; a site that is stuck is v");
        StuckLines x = withSources(3);
        for (int kind = 0; kind <= 5; kind++) {
            x.gate(kind, 0, 1, 2);
        }
        int[] withZero = {0, 1, OPEN, OPEN, OPEN, OPEN};
        int[] withOne = {OPEN, OPEN, 1, 0, OPEN, OPEN};
        int[] allZero = {0, 1, 0, 1, 0, 1};
        int[] allOne = {1, 0, 1, 0, 1, 0};
        for (int kind = 0; kind <= 5; kind++) {
            int line = 3 + kind;
            Check.due("all open, kind " + kind, x.ternary(7, 0, line, NONE), OPEN);
            Check.due("none open, all 0, kind " + kind, x.ternary(0, 0, line, NONE), allZero[kind]);
            Check.due("none open, all 1, kind " + kind, x.ternary(0, 7, line, NONE), allOne[kind]);
            for (int i = 0; i < 3; i++) {
                int others = 7 - (1 << i);
                Check.due("one pin is 0, kind " + kind, x.ternary(others, 0, line, NONE), withZero[kind]);
                Check.due("one pin is 1, kind " + kind, x.ternary(others, 1 << i, line, NONE), withOne[kind]);
                Check.due("one pin is stuck at 0, kind " + kind, x.ternary(7, 0, line, x.fault(line, i, 0)),
                    withZero[kind]);
                Check.due("one line is stuck at 1, kind " + kind, x.ternary(7, 0, line, x.fault(i, NONE, 1)),
                    withOne[kind]);
            }
            Check.due("all open, stuck at 0", x.ternary(7, 0, line, x.fault(line, NONE, 0)), 0);
            Check.due("all open, stuck at 1", x.ternary(7, 0, line, x.fault(line, NONE, 1)), 1);
        }
    }

    private static void someObservedLineIsTheContrary() {
        Check.sentence("A cube shows a fault if some observed line is 0 or 1 without the fault, and the contrary with "
            + "it.");
        StuckLines x = withSources(2);
        x.gate(0, 0, 1, NONE);
        x.output(2);
        // With source 0 open the AND would be open without the fault and 0 with it: that shows nothing.
        Check.due("open without the fault", x.cube(x.fault(2, NONE, 0)), 3);
        Check.due("open with the fault", x.cube(x.fault(2, 0, 1)), 2);
        StuckLines y = withSources(2);
        y.gate(4, 0, 1, NONE);
        y.output(2);
        y.output(1);
        Check.due("the second observed line alone shows it", y.cube(y.fault(1, NONE, 0)), 64 + 2);
        Check.due("the first one alone shows it", y.cube(y.fault(0, NONE, 0)), 1);
    }

    private static void openFromThenOn() {
        Check.sentence("begin with the least vector that shows it; for each source, by number, it is open from then on "
            + "if the cube shows the fault so, too");
        StuckLines x = withSources(6);
        x.gate(0, 0, 1, 2);
        x.gate(0, 3, 4, 5);
        x.gate(2, 6, 7, NONE);
        x.output(8);
        Check.due("least vector 0: all but one of each three are open", x.cube(x.fault(8, NONE, 1)), 64 * (3 + 24));
        Check.due("least vector 7: the other three are open", x.cube(x.fault(8, NONE, 0)), 64 * 56 + 7);
        Check.due("no source behind the last is open", withOneObservedSource().cube(1), 0);
    }

    private static StuckLines withOneObservedSource() {
        StuckLines x = withSources(1);
        x.output(0);
        return x;
    }

    private static void aSetBeginsWithNone() {
        Check.sentence("THE SET: at first no vectors. For each fault, by number, that is not hidden and that no vector "
            + "of it shows, the least vector that shows the fault comes behind.");
        Check.due("no faults", new StuckLines().packed(0), NONE);
        Check.due("all hidden", withSources(6).packed(0), NONE);
        StuckLines x = withOneObservedSource();
        Check.due("fault 0 brings vector 1", x.packed(0), 1);
        Check.due("fault 1 brings vector 0 behind it", x.packed(1), 0);
        Check.due("no more", x.packed(2), NONE);
    }

    private static void leftOutFromTheLastToTheFirst() {
        Check.sentence("Then, from the last vector to the first one, each is left out if those that are still there "
            + "show all faults that are not hidden without it.");
        // At first 1, 0, 2, 4, 8, 16, 32, 56, 48: all of 32, 16, 8 and 0 go.
        StuckLines full = Stage.FULL.make();
        int[] due = {1, 2, 4, 56, 48, NONE};
        for (int k = 0; k < due.length; k++) {
            Check.due("packed(" + k + ")", full.packed(k), due[k]);
        }
        StuckLines x = withSources(2);
        x.gate(0, 0, 1, NONE);
        x.gate(0, 0, 1, 2);
        x.output(0);
        x.output(1);
        x.output(3);
        // At first 1, 0, 2, 3: the last stays, the first does not.
        Check.due("the first one is left out", x.packed(0), 0);
        Check.due("the last one is not", x.packed(1), 3);
        Check.due("no more", x.packed(2), NONE);
        StuckLines y = withSources(2);
        y.gate(0, 0, 1, NONE);
        y.gate(0, 2, 0, NONE);
        y.output(0);
        y.output(1);
        y.output(3);
        // At first 1, 0, 2, 3: one of 0 and 2 is needed, and 2 is asked first.
        Check.due("1 stays", y.packed(0), 1);
        Check.due("0 stays, as 2 is left out before", y.packed(1), 0);
        Check.due("3 stays", y.packed(2), 3);
        Check.due("no more", y.packed(3), NONE);
    }

    private static void atMost16Rows() {
        Check.sentence("THE LOG: vectors with the responses that were seen, at most 16.");
        StuckLines x = withOneObservedSource();
        for (int time = 0; time < 3; time++) {
            for (int row = 1; row <= 16; row++) {
                Check.due("row " + row, x.log(row % 2, row % 2), row);
            }
            Check.dueThrow("a 17th row", Check.STATE, () -> x.log(0, 0));
            Check.due("forget", x.forget(), 16);
        }
    }

    private static void eachOfTheseResponses() {
        Check.sentence("A fault, or the circuit without one, EXPLAINS the log if it gives each of these responses to "
            + "its vector.");
        for (int wrong = 0; wrong < 16; wrong++) {
            StuckLines x = withOneObservedSource();
            for (int row = 0; row < 16; row++) {
                x.log(0, row == wrong ? 1 : 0);
            }
            Check.due("row " + wrong + " is another response", x.explains(NONE), 0);
            Check.due("no fault explains it", x.explains(0), NONE);
        }
    }

    private static void theCircuitAsItIs() {
        Check.sentence("What is asked is always of the circuit as it is.");
        StuckLines x = new StuckLines();
        Check.due("no line", x.packed(0), NONE);
        x.source(true);
        Check.due("a source, not observed", x.packed(0), NONE);
        Check.due("count(5)", x.count(5), 1);
        x.output(0);
        Check.due("observed", x.packed(0), 1);
        Check.due("count(5)", x.count(5), 2);
        x.gate(1, 0, NONE, NONE);
        Check.due("a gate, not observed", x.showing(x.fault(1, NONE, 0)), 0);
        x.data(0, 1);
        Check.due("a data line", x.showing(x.fault(1, NONE, 0)), 1);
        x.data(0, 0);
        Check.due("another one in its place", x.showing(x.fault(1, NONE, 0)), 0);
        x.clear();
        Check.due("cleared", x.packed(0), NONE);
        Check.due("count(5)", x.count(5), 0);
        // As many building calls as before, or one more or less, must not bring back what was asked then.
        for (int calls = 1; calls <= 3; calls++) {
            StuckLines again = withOneObservedSource();
            Check.due("observed", again.least(0), 1);
            Check.due("observed", again.packed(0), 1);
            again.clear();
            for (int i = 0; i < calls; i++) {
                again.source(true);
            }
            Check.due("not observed after clear", again.least(0), NONE);
            Check.due("not observed after clear", again.packed(0), NONE);
        }
        StuckLines more = withOneObservedSource();
        for (int sources = 1; sources < 6; sources++) {
            Check.due("half of the vectors show it", Long.bitCount(more.showing(0)), 1 << sources - 1);
            more.source(false);
        }
        Check.due("half of 64", Long.bitCount(more.showing(0)), 32);
    }

    private static void buildingLeavesTheLogEmpty() {
        Check.sentence("Building (source, gate, output, data) leaves the log empty.");
        Check.Asked[] building = {x -> x.source(false), x -> x.source(true), x -> x.gate(0, 0, NONE, NONE),
            x -> x.output(1), x -> data(x, 0, 1), x -> data(x, 0, 0)};
        for (int rows : new int[] {0, 1, 16}) {
            for (int i = 0; i < building.length; i++) {
                StuckLines x = new StuckLines();
                x.source(true);
                x.source(false);
                x.data(0, 0);
                for (int row = 0; row < rows; row++) {
                    x.log(0, 4095);
                }
                Check.due("the log is explained", x.explains(NONE), rows == 0 ? 1 : 0);
                building[i].of(x);
                Check.due("building call " + i + ": explains", x.explains(NONE), 1);
                Check.due("building call " + i + ": forget", x.forget(), 0);
                Check.due("building call " + i + ": log", x.log(0, 0), 1);
            }
        }
    }

    private static long data(StuckLines x, int flop, int line) {
        x.data(flop, line);
        return 0;
    }

    private static void aCallThatThrowsChangesNothing() {
        Check.sentence("A call that throws changes nothing");
        for (Stage stage : Stage.values()) {
            int n = stage.lines;
            if (n == 26) {
                Check.dueRefused("source without room", stage, Check.STATE, x -> x.source(true));
                Check.dueRefused("gate without room", stage, Check.STATE, x -> x.gate(1, 0, 25, NONE));
                Check.dueRefused("output without room", stage, Check.STATE, x -> x.output(0));
                Check.dueRefused("data of a gate", stage, Check.ARGUMENT, x -> data(x, 25, 24));
                Check.dueRefused("log without room", stage, Check.STATE, x -> x.log(0, 4095));
            }
            Check.dueRefused("gate without a pin", stage, Check.ARGUMENT, x -> x.gate(0, NONE, NONE, NONE));
            Check.dueRefused("gate of no line", stage, Check.INDEX, x -> x.gate(0, n, NONE, NONE));
            Check.dueRefused("output of no line", stage, Check.INDEX, x -> x.output(n));
            Check.dueRefused("data of no line", stage, Check.INDEX, x -> data(x, n, n));
            Check.dueRefused("count of nothing", stage, Check.ARGUMENT, x -> x.count(6));
            Check.dueRefused("value of no line", stage, Check.INDEX, x -> x.value(0, n, NONE));
            Check.dueRefused("response to no vector", stage, Check.INDEX, x -> x.response(stage.vectors(), NONE));
            Check.dueRefused("faultAt of no fault", stage, Check.INDEX, x -> x.faultAt(stage.faults, 0));
            Check.dueRefused("least of no fault", stage, Check.INDEX, x -> x.least(stage.faults));
            Check.dueRefused("showing of no fault", stage, Check.INDEX, x -> x.showing(stage.faults));
            Check.dueRefused("alike of no fault", stage, Check.INDEX, x -> x.alike(stage.faults));
            Check.dueRefused("ternary of no line", stage, Check.INDEX, x -> x.ternary(0, 0, n, NONE));
            Check.dueRefused("cube of no fault", stage, Check.INDEX, x -> x.cube(stage.faults));
            Check.dueRefused("log of no vector", stage, Check.INDEX, x -> x.log(stage.vectors(), 0));
            Check.dueRefused("log of no response", stage, Check.ARGUMENT, x -> x.log(0, 4096));
        }
    }

    /** Every two exceptions that one call names, both fitting, and all three where there are three. */
    private static void theOneNamedFirst() {
        Check.sentence("where several exceptions that a call names fit, the one named first is thrown");
        Stage small = Stage.SMALL;
        Stage full = Stage.FULL;
        Check.dueRefused("gate: kind and line", small, Check.ARGUMENT, x -> x.gate(6, 4, NONE, NONE));
        Check.dueRefused("gate: no pin and line", small, Check.ARGUMENT, x -> x.gate(0, NONE, 4, 4));
        Check.dueRefused("gate: a gap and line", small, Check.ARGUMENT, x -> x.gate(0, 4, NONE, 0));
        Check.dueRefused("gate: a gap and the line behind it", small, Check.ARGUMENT, x -> x.gate(0, 0, NONE, 4));
        Check.dueRefused("gate: kind and no room", full, Check.ARGUMENT, x -> x.gate(6, 0, NONE, NONE));
        Check.dueRefused("gate: no pin and no room", full, Check.ARGUMENT, x -> x.gate(0, NONE, NONE, NONE));
        Check.dueRefused("gate: a gap and no room", full, Check.ARGUMENT, x -> x.gate(0, 0, NONE, 0));
        Check.dueRefused("gate: line and no room", full, Check.INDEX, x -> x.gate(0, 0, 26, NONE));
        Check.dueRefused("gate: all three", full, Check.ARGUMENT, x -> x.gate(-1, 26, NONE, NONE));
        Check.dueRefused("output: line and no room", full, Check.INDEX, x -> x.output(26));
        Check.dueRefused("data: flop is no line, line is none", small, Check.INDEX, x -> data(x, 4, 4));
        Check.dueRefused("data: no flip-flop, line is none", small, Check.INDEX, x -> data(x, 0, 4));
        Check.dueRefused("data: a gate, line is none", full, Check.INDEX, x -> data(x, 6, -1));
        Check.dueRefused("faultAt: fault and what", small, Check.INDEX, x -> x.faultAt(18, 3));
        Check.dueRefused("ternary: line and sum", small, Check.INDEX, x -> x.ternary(4, 0, 4, NONE));
        Check.dueRefused("ternary: fault and sum", small, Check.INDEX, x -> x.ternary(0, 4, 0, 18));
        Check.dueRefused("ternary: line and both", small, Check.INDEX, x -> x.ternary(1, 1, -1, NONE));
        Check.dueRefused("ternary: fault and both", small, Check.INDEX, x -> x.ternary(1, 1, 0, -2));
        Check.dueRefused("log: vector and response", small, Check.INDEX, x -> x.log(4, 4096));
        Check.dueRefused("log: vector and no room", full, Check.INDEX, x -> x.log(64, 0));
        Check.dueRefused("log: response and no room", full, Check.ARGUMENT, x -> x.log(0, -1));
        Check.dueRefused("log: all three", full, Check.INDEX, x -> x.log(-1, -1));
    }
}
