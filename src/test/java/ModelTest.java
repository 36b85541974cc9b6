/**
 * Promises 1 to 20 together: long runs of mixed calls, right and wrong ones, each answered by the program and
 * by the plain model. The runs are always the same ones.
 */
public final class ModelTest {
    private static final int NONE = StuckLines.NONE;
    private static final int RUNS = 400;
    /** The document promises no more for one object. */
    private static final int CALLS = 512;
    private static final int[] ODD = {-1, -2, 1, 26, 64, 4096, Integer.MAX_VALUE, Integer.MIN_VALUE};

    private long seed = 20261115;
    private StuckLines program;
    private PlainModel model;
    private int run;
    private int call;
    private int culprit;

    public static void main(String[] args) {
        ModelTest test = new ModelTest();
        for (int run = 0; run < RUNS; run++) {
            test.oneRun(run);
        }
        Check.finish();
    }

    private int below(int bound) {
        seed = seed * 6364136223846793005L + 1442695040888963407L;
        return (int) ((seed >>> 33) % Math.max(1, bound));
    }

    private void oneRun(int number) {
        run = number;
        program = new StuckLines();
        model = new PlainModel();
        call = 0;
        build(below(7), below(27));
        while (call < CALLS) {
            if (below(100) < 3) {
                change();
            } else {
                ask();
            }
        }
    }

    /** A circuit with some sources at first and more of them between the gates. */
    private void build(int sources, int lines) {
        for (int i = 0; i < sources; i++) {
            source();
        }
        while (call < CALLS && model.count(0) < lines && (model.count(0) > 0 || sources > 0)) {
            if (below(12) == 0) {
                source();
            } else {
                gate();
            }
        }
        int outputs = below(7);
        for (int i = 0; i < outputs; i++) {
            output();
        }
        int flops = below(8);
        for (int i = 0; i < flops; i++) {
            data();
        }
        culprit = below(model.count(3));
    }

    private void compare(String name, Check.Call got, Check.Call want) {
        if (call < CALLS) {
            call++;
            Check.dueText("run " + run + ", call " + call + ": " + name, Check.outcome(got), Check.outcome(want));
        }
    }

    private int mostly(int bound) {
        return below(20) == 0 ? ODD[below(ODD.length)] : below(bound);
    }

    private int line() {
        return mostly(model.count(0) + (below(30) == 0 ? 1 : 0));
    }

    /** Late lines rather than early ones, so that circuits get deep. */
    private int lateLine() {
        int lines = model.count(0);
        return below(3) == 0 ? line() : Math.max(0, lines - 1 - below(5));
    }

    private int vector() {
        return mostly((1 << model.count(1)) + (below(30) == 0 ? 1 : 0));
    }

    private int anyFault() {
        return mostly(model.count(3) + (below(30) == 0 ? 1 : 0));
    }

    private int faultOrNone() {
        return below(5) == 0 ? NONE : anyFault();
    }

    private void change() {
        switch (below(8)) {
            case 0:
                call++;
                program.clear();
                model.clear();
                build(below(7), below(27));
                break;
            case 1:
                source();
                break;
            case 2:
            case 3:
                gate();
                break;
            case 4:
            case 5:
                output();
                break;
            default:
                data();
                break;
        }
    }

    private void source() {
        boolean flop = below(2) == 0;
        compare("source(" + flop + ")", () -> program.source(flop), () -> model.source(flop));
    }

    private void gate() {
        int kind = mostly(6);
        int a = lateLine();
        int b = below(4) == 0 ? NONE : lateLine();
        int c = b == NONE && below(10) > 0 || below(2) == 0 ? NONE : line();
        compare("gate(" + kind + ", " + a + ", " + b + ", " + c + ")", () -> program.gate(kind, a, b, c),
            () -> model.gate(kind, a, b, c));
    }

    private void output() {
        int line = lateLine();
        compare("output(" + line + ")", () -> program.output(line), () -> model.output(line));
    }

    private void data() {
        int flop = below(5) == 0 ? line() : below(7);
        int line = lateLine();
        compare("data(" + flop + ", " + line + ")",
            () -> {
                program.data(flop, line);
                return 0;
            },
            () -> {
                model.data(flop, line);
                return 0;
            });
    }

    private void ask() {
        int fault = anyFault();
        switch (below(14)) {
            case 0:
                int what = mostly(6);
                compare("count(" + what + ")", () -> program.count(what), () -> model.count(what));
                break;
            case 1:
                askValue();
                break;
            case 2:
                int vector = vector();
                int with = faultOrNone();
                compare("response(" + vector + ", " + with + ")", () -> program.response(vector, with),
                    () -> model.response(vector, with));
                break;
            case 3:
                int line = line();
                int pin = below(4) - 1;
                int v = mostly(2);
                compare("fault(" + line + ", " + pin + ", " + v + ")", () -> program.fault(line, pin, v),
                    () -> model.fault(line, pin, v));
                break;
            case 4:
                int of = mostly(3);
                compare("faultAt(" + fault + ", " + of + ")", () -> program.faultAt(fault, of),
                    () -> model.faultAt(fault, of));
                break;
            case 5:
                compare("least(" + fault + ")", () -> program.least(fault), () -> model.least(fault));
                break;
            case 6:
                compare("showing(" + fault + ")", () -> program.showing(fault), () -> model.showing(fault));
                break;
            case 7:
                compare("alike(" + fault + ")", () -> program.alike(fault), () -> model.alike(fault));
                break;
            case 8:
                askTernary();
                break;
            case 9:
                compare("cube(" + fault + ")", () -> program.cube(fault), () -> model.cube(fault));
                break;
            case 10:
                int k = mostly(12);
                compare("packed(" + k + ")", () -> program.packed(k), () -> model.packed(k));
                break;
            case 11:
                askLog();
                break;
            case 12:
                int explained = below(5) == 0 ? NONE : mostly(below(2) == 0 ? 4 : model.count(3));
                compare("explains(" + explained + ")", () -> program.explains(explained),
                    () -> model.explains(explained));
                break;
            default:
                if (below(6) == 0) {
                    compare("forget()", program::forget, model::forget);
                    culprit = below(model.count(3));
                } else {
                    askLog();
                }
                break;
        }
    }

    private void askValue() {
        int vector = vector();
        int line = line();
        int fault = faultOrNone();
        compare("value(" + vector + ", " + line + ", " + fault + ")", () -> program.value(vector, line, fault),
            () -> model.value(vector, line, fault));
    }

    private void askTernary() {
        int open = vector();
        int ones = below(8) == 0 ? vector() : vector() & ~open;
        int line = line();
        int fault = faultOrNone();
        compare("ternary(" + open + ", " + ones + ", " + line + ", " + fault + ")",
            () -> program.ternary(open, ones, line, fault), () -> model.ternary(open, ones, line, fault));
    }

    /** Mostly what one fault would give, so that there is something to explain. */
    private void askLog() {
        int vector = vector();
        boolean known = vector >= 0 && vector < 1 << model.count(1) && culprit < model.count(3);
        int response = known && below(12) > 0 ? model.response(vector, culprit) : mostly(4096);
        compare("log(" + vector + ", " + response + ")", () -> program.log(vector, response),
            () -> model.log(vector, response));
    }
}
