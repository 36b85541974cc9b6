/**
 * The circuits on which the boundary cases are tried: empty ones, small ones and full ones, some of them after
 * clear. A new object is made for each wrong call, so that none is used for more than 512 calls.
 */
enum Stage {
    NEW(0, 0, 0, 0, 0),
    /** One with no room left and a full log, of which things were asked, after clear. */
    CLEARED(0, 0, 0, 0, 0),
    /** Input 0, flip-flop 1, line 2 their AND (an output), line 3 the XOR of all three (the data line). */
    SMALL(4, 2, 2, 18, 1),
    /** The small one, built where one with no room left stood. */
    REBUILT(4, 2, 2, 18, 1),
    /** Flip-flop 0 and 25 gates that hand its value on, each by three pins: the most faults there can be. */
    ONE_SOURCE(26, 1, 7, 202, 16),
    /**
     * Six flip-flops, each its own data line, and 20 gates, each the AND of the three lines before it, the last
     * six of them outputs. All gates are 1 where flip-flops 3, 4 and 5 are.
     */
    FULL(26, 6, 12, 172, 16);

    static final int NONE = StuckLines.NONE;
    static final int LEAST = Integer.MIN_VALUE;
    static final int GREATEST = Integer.MAX_VALUE;

    final int lines;
    final int sources;
    final int observed;
    final int faults;
    final int rows;

    Stage(int lines, int sources, int observed, int faults, int rows) {
        this.lines = lines;
        this.sources = sources;
        this.observed = observed;
        this.faults = faults;
        this.rows = rows;
    }

    int vectors() {
        return 1 << sources;
    }

    StuckLines make() {
        StuckLines x = new StuckLines();
        switch (this) {
            case NEW:
                break;
            case CLEARED:
                fillAndClear(x);
                break;
            case SMALL:
                buildSmall(x);
                break;
            case REBUILT:
                fillAndClear(x);
                buildSmall(x);
                break;
            case ONE_SOURCE:
                buildOneSource(x);
                break;
            default:
                buildFull(x);
                break;
        }
        return x;
    }

    /** Its outputs are 1 for most vectors and its set is great: what is left of them would be seen afterwards. */
    private static void fillAndClear(StuckLines x) {
        for (int i = 0; i < 6; i++) {
            x.source(true);
        }
        for (int line = 6; line < 26; line++) {
            x.gate(1, 3, 4, 5);
        }
        for (int i = 0; i < 6; i++) {
            x.output(20 + i);
            x.data(i, i);
        }
        x.count(5);
        x.packed(0);
        x.cube(0);
        for (int i = 0; i < 16; i++) {
            x.log(i, 4095);
        }
        x.explains(0);
        x.clear();
    }

    private static void buildSmall(StuckLines x) {
        x.source(false);
        x.source(true);
        x.gate(0, 0, 1, NONE);
        x.gate(4, 0, 1, 2);
        x.output(2);
        x.data(1, 3);
        x.log(3, 3);
    }

    private static void buildOneSource(StuckLines x) {
        x.source(true);
        for (int line = 1; line < 26; line++) {
            x.gate(2, line - 1, line - 1, line - 1);
        }
        for (int line = 20; line < 26; line++) {
            x.output(line);
        }
        x.data(0, 25);
        for (int i = 0; i < 16; i++) {
            x.log(i % 2, 127 * (i % 2));
        }
    }

    private static void buildFull(StuckLines x) {
        for (int i = 0; i < 6; i++) {
            x.source(true);
        }
        for (int line = 6; line < 26; line++) {
            x.gate(0, line - 1, line - 2, line - 3);
        }
        for (int line = 20; line < 26; line++) {
            x.output(line);
        }
        for (int i = 0; i < 6; i++) {
            x.data(i, i);
        }
        for (int i = 0; i < 16; i++) {
            x.log(4 * i, responseOfFull(4 * i));
        }
    }

    static int responseOfFull(int vector) {
        return 64 * vector + (vector >= 56 ? 63 : 0);
    }

    /** All that can be asked of it, in at most 300 calls; the log is empty afterwards. */
    String picture(StuckLines x) {
        StringBuilder text = new StringBuilder();
        for (int what = 0; what <= 5; what++) {
            text.append(" count ").append(x.count(what));
        }
        for (int fault = 0; fault < faults; fault++) {
            text.append(" showing ").append(x.showing(fault));
        }
        for (int vector = 0; vector < vectors(); vector++) {
            text.append(" response ").append(x.response(vector, NONE));
        }
        for (int k = NONE; k < 4; k++) {
            text.append(" explains ").append(x.explains(k)).append(" packed ").append(x.packed(k));
        }
        return text.append(" forget ").append(x.forget()).toString();
    }
}
