/** Every call that answers NONE or false: nothing that can be seen is another behind it. */
public final class RefusedCallsTest {
    private static final Check CHECK = new Check();
    private static final int MIN = Integer.MIN_VALUE;
    private static final int MAX = Integer.MAX_VALUE;
    private static final int[] FAR = {MIN, MIN + 1, -1000, -2, -1, 1000, MAX - 1, MAX};
    private static final int CALLS = 17;

    public static void main(String[] args) {
        for (int call = 0; call < CALLS; call++) {
            for (int far : FAR) {
                refusedWith(call, far);
            }
        }
        refusedJustBeyond();
        refusedBecauseFull();
        CHECK.finish();
    }

    /** An object with something of each kind, so that a change of any would be seen. */
    private static TicketJudge richOne(boolean full) {
        TicketJudge x = Check.judge("early links keep stay told forms life 5");
        for (int rule = 0; rule < 7; rule++) {
            x.cost(rule, 10 + rule);
        }
        for (int k = 0; k < (full ? 6 : 4); k++) {
            x.task(3, k % 2 == 0 ? 0x3A1 : 0x311);
        }
        x.walk(32, 6, 1);
        Check.row(x, 3, 8, 4, 10, 1, 6, 10);
        if (full) {
            x.letter(9);
        }
        Check.put(x, Check.padded("told life 8", full ? 200 : 181));
        return x;
    }

    private static void refusedWith(int call, int far) {
        TicketJudge x = richOne(false);
        String before = Check.looks(x);
        String name = "call " + call + " of " + far;
        CHECK.due(name, refuse(x, call, far), -1);
        CHECK.same(name + ": nothing happens", Check.looks(x), before);
        tapeIsAsItWas(name, x);
    }

    private static void tapeIsAsItWas(String name, TicketJudge x) {
        CHECK.due(name + ": the TAPE is a HOUSE", x.house(), 2);
        CHECK.due(name + ": its life", x.has(6), 8);
    }

    private static int refuse(TicketJudge x, int call, int far) {
        switch (call) {
            case 0:
                return x.feed(far, far, far, far, far);
            case 1:
                return x.end(far);
            case 2:
                return x.has(far);
            case 3:
                return x.cost(far, 5);
            case 4:
                return x.cost(5, far);
            case 5:
                return x.task(far, 0x3A1);
            case 6:
                return x.goes(far, 0);
            case 7:
                return x.goes(0, far);
            case 8:
                return x.begin(far) ? 0 : -1;
            case 9:
                return x.letter(far);
            case 10:
                return x.walk(far, 5, 7);
            case 11:
                return x.walk(0, far, 7);
            case 12:
                return x.walk(0, 5, far);
            case 13:
                return x.mend(far, 7);
            case 14:
                return x.mend(5, far);
            case 15:
                return x.row(far) + x.least(far) + x.walked(far) + x.count(far) + 3;
            default:
                return x.ticket(far, 0) + x.ticket(0, far) + x.ticket(far, far) + 2;
        }
    }

    private static void refusedJustBeyond() {
        int[][] beyond = {{1, 182}, {2, 7}, {3, 7}, {4, 100}, {5, 0}, {5, 9}, {6, 4}, {7, 128}, {8, 128},
            {9, 11}, {10, 128}, {11, 0}, {11, 11}, {12, 0}, {12, 8}, {13, 0}, {13, 11}, {14, 0}, {14, 8},
            {15, 17}, {16, 4}};
        for (int[] one : beyond) {
            refusedWith(one[0], one[1]);
        }
    }

    private static void refusedBecauseFull() {
        TicketJudge x = richOne(true);
        CHECK.due("11: the row ended", x.row(5), 1);
        String before = Check.looks(x);
        CHECK.due("2: a full TAPE", x.feed(0x21212121, 0, 0, 0, 0), -1);
        CHECK.due("7: six TASKS", x.task(1, 0), -1);
        for (int l = 0; l <= 10; l++) {
            CHECK.due("11: behind a FLAW", x.letter(l), -1);
        }
        CHECK.same("full: nothing happens", Check.looks(x), before);
        tapeIsAsItWas("full", x);
    }
}
