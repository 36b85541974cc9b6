/** What all tests use: it prints each answer that is not the one that is due, and ends with exit code 1 then. */
final class Check {
    static final Class<IllegalStateException> STATE = IllegalStateException.class;
    static final Class<IllegalArgumentException> ARGUMENT = IllegalArgumentException.class;
    static final Class<IndexOutOfBoundsException> INDEX = IndexOutOfBoundsException.class;
    static final int NONE = StuckLines.NONE;

    private static int asked = 0;
    private static int wrong = 0;
    private static String sentence = "";
    private static int sentences = 0;

    interface Call {
        long answer();
    }

    interface Asked {
        long of(StuckLines x);
    }

    private Check() {
    }

    /** What follows tries this sentence of the document; a wrong answer is printed with it. */
    static void sentence(String words) {
        sentence = "\"" + words + "\": ";
        sentences++;
    }

    static void due(String what, long got, long want) {
        dueText(what, Long.toString(got), Long.toString(want));
    }

    static void dueText(String what, String got, String want) {
        asked++;
        if (!got.equals(want)) {
            wrong++;
            System.out.println(sentence + what + " answered " + got + ", due is " + want);
        }
    }

    static void dueThrow(String what, Class<? extends RuntimeException> want, Call call) {
        dueText(what, outcome(call), "throws." + want.getSimpleName());
    }

    /** An answer, or the very class of what was thrown: one that derives from the due one is not due. */
    static String outcome(Call call) {
        try {
            return Long.toString(call.answer());
        } catch (RuntimeException e) {
            return "throws." + e.getClass().getSimpleName();
        }
    }

    /** All that can be asked of a small circuit without a change; some 100 calls for one with 5 lines. */
    static String picture(StuckLines x) {
        StringBuilder text = new StringBuilder();
        for (int what = 0; what <= 5; what++) {
            text.append(x.count(what)).append(' ');
        }
        for (int fault = 0; fault < x.count(3); fault++) {
            text.append(x.faultAt(fault, 0)).append(' ').append(x.showing(fault)).append(' ');
        }
        for (int vector = 0; vector < 1 << x.count(1); vector++) {
            text.append(x.response(vector, NONE)).append(' ');
        }
        for (int k = NONE; k < 4; k++) {
            text.append(x.explains(k)).append(' ');
        }
        return text.toString();
    }

    /** Neither the circuit nor the log is another one after calls that throw. */
    static void dueUnchanged(String what, StuckLines x, Class<? extends RuntimeException> want, Call... calls) {
        String before = picture(x);
        for (int i = 0; i < calls.length; i++) {
            dueThrow(what + ", call " + i, want, calls[i]);
        }
        dueText(what + ", afterwards", picture(x), before);
    }

    /**
     * A wrong call on one new object of a stage and none on another one: it throws what is due, and all that
     * can be asked of both is the same afterwards.
     */
    static void dueRefused(String what, Stage stage, Class<? extends RuntimeException> want, Asked call) {
        StuckLines tried = stage.make();
        dueThrow(stage + ": " + what, want, () -> call.of(tried));
        String got = stage.picture(tried);
        dueText(stage + " after " + what, got, stage.picture(stage.make()));
    }

    static void finish() {
        String tried = sentences == 0 ? "" : sentences + " sentences tried, ";
        System.out.println(tried + asked + " answers asked, " + wrong + " wrong");
        if (wrong != 0 || asked == 0) {
            System.exit(1);
        }
    }
}
