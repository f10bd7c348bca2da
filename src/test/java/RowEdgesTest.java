import java.util.Arrays;

/** Edges of promises 10 to 13: REFUSED LETTERS, no TICKET left, TICKS up to the end, FLAWS. */
public final class RowEdgesTest {
    private static final Check CHECK = new Check();
    private static final int MIN = Integer.MIN_VALUE;
    private static final int MAX = Integer.MAX_VALUE;
    private static final int TURN = 1;
    private static final int END = 2;
    private static final int BIND = 4;
    private static final int ONCE = 8;
    private static final int NOLINKS = 16;
    private static final int SILENT = 32;
    private static final int SHORT = 64;

    public static void main(String[] args) {
        everyLetterFromAllEmpty();
        visitsRefusedOrNot();
        loginsRefusedOrNot();
        leavingsRefused();
        actsRefused();
        linksRefused();
        formsRefused();
        linesRefused();
        ridesRefused();
        noFifthTicketAfterAnyFour();
        ticketsAreNumberedAsGiven();
        lifeFromOneToNine();
        shortWithEachLife();
        neverWithoutLife();
        ticksOfThoseThatLiveAlone();
        nineTicksOfEachTicket();
        eachTicketChangesHands();
        noSuchLetter();
        behindAFlaw();
        rulesOfARow();
        aRowBeginsAnew();
        whatOfARow();
        whatOfATicket();
        whatHeKnowsStays();
        anotherHouseAmidARow();
        aRowOfFiveHundredLetters();
        CHECK.finish();
    }

    private static void due(String call, long got, long want) {
        CHECK.due(call, got, want);
    }

    /** A row, and then a LETTER that is REFUSED, with which nothing happens. */
    private static void refused(String house, int rules, int l, int... row) {
        step(house, rules, l, 0, row);
    }

    /** A row, and then a LETTER that is done, with which nothing happens but that. */
    private static void idle(String house, int rules, int l, int... row) {
        step(house, rules, l, 1, row);
    }

    private static void step(String house, int rules, int l, int answer, int... row) {
        TicketJudge x = Check.judge(house);
        String call = "11: '" + house + "' begin(" + rules + ") " + Arrays.toString(row);
        for (int k = 0; k < row.length; k++) {
            int done = k == 0 ? Check.row(x, rules, row[0]) : x.letter(row[k]);
            due(call + " letter " + k, done, 1);
        }
        if (row.length == 0) {
            x.begin(rules);
        }
        String before = Check.rowLooks(x).substring(("row " + row.length).length());
        due(call + " letter(" + l + ")", x.letter(l), answer);
        due(call + " row(0)", x.row(0), row.length + answer);
        String behind = Check.rowLooks(x).substring(("row " + x.row(0)).length());
        CHECK.same(call + " letter(" + l + ") changes nothing", behind, before);
    }

    private static void everyLetterFromAllEmpty() {
        int[] without = {1, 1, 0, 0, 0, 0, 0, 1, 1, 0, 1};
        for (String house : new String[] {"", "early links keep stay told forms life 1"}) {
            for (int rules : new int[] {0, 127}) {
                for (int l = 0; l <= 10; l++) {
                    TicketJudge x = Check.judge(house);
                    due("11: '" + house + "' " + l + " at first", Check.row(x, rules, l), without[l]);
                    due("12: LETTERS done", x.row(0), without[l]);
                }
            }
        }
    }

    private static void visitsRefusedOrNot() {
        int[] full = {0, 7, 8, 8};
        // Without early nothing is given, so nothing is REFUSED.
        idle("", 0, 0);
        idle("", 0, 7);
        idle("", 0, 0, 1, 1, 1, 1, 2);
        idle("", 0, 7, 1, 1, 1, 1);
        // One that lives is enough, the fourth one too.
        idle("early", 0, 0, full);
        idle("early", 0, 7, full);
        idle("early links", BIND, 0, 7, 4);
        refused("early", 0, 0, 1, 1, 1, 1, 2);
        refused("early", 0, 0, 8, 8, 8, 8);
        refused("early", 0, 7, 1, 1, 1, 1);
        refused("early life 1", 0, 0, 0, 7, 8, 8, 10);
        refused("early life 1", 0, 7, 0, 7, 8, 8, 10);
    }

    private static void loginsRefusedOrNot() {
        refused("", 0, 1, 1, 1, 1, 1);
        refused("", 0, 8, 8, 8, 8, 8);
        refused("", 0, 8, 1, 1, 1, 1);
        refused("", 0, 1, 8, 8, 8, 8);
        refused("", TURN, 1, 1, 1, 1, 1);
        refused("keep", TURN, 1, 1, 1, 1, 1);
        refused("keep", TURN, 8, 8, 8, 8, 8);
        refused("keep life 1", 0, 1, 1, 10, 1, 10, 1, 10, 1, 10);
        refused("keep links", BIND, 1, 1, 8, 4, 1, 4, 1, 4);
        refused("keep", 0, 8, 1, 2, 1, 2, 1, 2, 1);
        // A kept one needs no new one.
        idle("keep", 0, 1, 1, 2, 1, 2, 1, 2, 1);
        idle("keep", BIND, 8, 1, 2, 1, 2, 1, 2, 8);
        TicketJudge x = Check.judge("early keep");
        due("11: one of nobody is kept", Check.row(x, 0, 7, 8), 1);
        due("12: no other is given", x.row(4), 1);
        due("13: it is his", x.ticket(0, 1), 2);
    }

    private static void leavingsRefused() {
        for (String house : new String[] {"early links", "early links stay"}) {
            refused(house, 0, 2);
            refused(house, 0, 2, 0);
            refused(house, 0, 2, 7, 4);
            refused(house, 0, 2, 1, 2);
            refused(house, SHORT, 2, 1, 10, 10);
            refused(house, END, 2, 8);
            TicketJudge x = Check.judge(house);
            due("11: one tick less", Check.row(x, SHORT, 1, 10, 2), 1);
            due("11: with the STRANGER's", Check.row(x, BIND, 8, 4, 2), 1);
            due("11: his STORE is empty", x.row(1), -1);
            due("11: the STRANGER's is not", x.row(2), 0);
        }
    }

    private static void actsRefused() {
        refused("early links", 0, 3);
        refused("early links", 0, 3, 0);
        refused("early links", 0, 3, 7, 4);
        refused("early links", 0, 3, 8);
        refused("early links", 0, 3, 1, 2);
        refused("early links", BIND, 3, 8, 4);
        refused("early links life 1", 0, 3, 1, 10);
        refused("early links life 1", 0, 3, 8, 4, 10);
        idle("early links", 0, 3, 1);
        idle("early links", BIND, 3, 1);
        idle("early links life 2", 0, 3, 1, 10);
    }

    private static void linksRefused() {
        refused("early keep stay told forms", 0, 4, 7);
        refused("links early", NOLINKS, 4, 7);
        refused("links early", 0, 4);
        refused("links early", 0, 4, 0, 1);
        idle("links", 0, 4, 8, 4);
        TicketJudge x = Check.judge("links stay life 1");
        due("11: one that ended goes, too", Check.row(x, 0, 8, 10, 4), 1);
        due("12: in the VISITOR's STORE", x.row(1), 0);
        due("13: it has ended", x.ticket(0, 0), 0);
    }

    private static void formsRefused() {
        refused("early links keep stay told", 0, 5, 1);
        refused("forms", ONCE, 5, 1);
        refused("forms early links", 0, 5);
        refused("forms early links", 0, 5, 0);
        refused("forms early links", 0, 5, 8, 4);
        refused("forms early links", 0, 5, 7, 4);
        refused("forms early links", 0, 5, 1, 2);
        refused("forms early links", 0, 5, 1, 8, 4);
        refused("forms early links", BIND, 5, 8, 4);
        refused("forms life 1", 0, 5, 1, 10);
        TicketJudge x = Check.judge("forms life 2");
        due("11: one tick less", Check.row(x, 127 - ONCE, 1, 10, 5), 3);
    }

    private static void linesRefused() {
        refused("early links keep stay forms", 0, 6, 1);
        refused("told", SILENT, 6, 1);
        refused("told", 0, 6);
        refused("told", 0, 6, 8);
        refused("told", 0, 6, 1, 2);
        idle("told", 0, 6, 1, 6);
        idle("told links", 0, 6, 8, 4);
        TicketJudge x = Check.judge("told life 1");
        due("11: one that ended is told, too", Check.row(x, 0, 1, 10, 6), 1);
        due("12: he KNOWS it", x.row(3), 1);
    }

    private static void ridesRefused() {
        refused("told", 0, 9);
        refused("told", 0, 9, 1);
        refused("told", 0, 9, 8);
        refused("told early", 0, 9, 0, 6);
        refused("told early", 0, 9, 0, 6, 1);
        refused("told", BIND, 9, 1, 6);
        refused("told", 0, 9, 1, 6, 2);
        refused("told stay", END, 9, 1, 6, 2);
        refused("told", TURN, 9, 1, 6, 1);
        refused("told life 1", 0, 9, 1, 6, 10);
        refused("links keep", 0, 9, 8, 4, 1, 8);
        TicketJudge x = Check.judge("told stay life 2");
        due("11: one tick less", Check.row(x, 0, 1, 6, 10, 9), 2);
        due("11: it stays alive behind a leaving", Check.row(x, 0, 1, 6, 2, 9), 2);
        due("11: the fourth TICKET", Check.row(x, 0, 1, 1, 1, 1, 6, 9), 2);
        due("12: TICKET 3 is bit 3", x.row(3), 8);
    }

    private static void noFifthTicketAfterAnyFour() {
        int[] givers = {0, 1, 7, 8};
        for (int fours = 0; fours < 16; fours++) {
            TicketJudge x = Check.judge("early");
            x.begin(0);
            int given = 0;
            for (int k = 0; k < 4; k++) {
                due("11: login " + k, x.letter((fours >> k & 1) == 0 ? 1 : 8), 1);
                given++;
                due("12: given", x.row(4), given);
            }
            String before = Check.rowLooks(x);
            due("11: no fifth", x.letter(1), 0);
            due("11: no fifth", x.letter(8), 0);
            CHECK.same("11: nothing happens", Check.rowLooks(x), before);
        }
        for (int first : givers) {
            TicketJudge x = Check.judge("early life 1");
            x.begin(0);
            for (int k = 0; k < 4; k++) {
                due("11: one more", x.letter(givers[(first + k) % 4]), 1);
                x.letter(10);
            }
            due("12: four", x.row(4), 4);
            for (int l : givers) {
                due("11: letter(" + l + ") with none left", x.letter(l), 0);
            }
            due("12: still four", x.row(4), 4);
        }
    }

    private static void ticketsAreNumberedAsGiven() {
        TicketJudge x = Check.judge("early");
        Check.row(x, 0, 7);
        due("12: the first is 0", x.row(2), 0);
        x.letter(0);
        due("12: then 1", x.row(1), 1);
        x.letter(1);
        due("12: then 2", x.row(1), 2);
        x.letter(2);
        x.letter(8);
        due("12: one that ended is not given again", x.row(2), 3);
    }

    private static void lifeFromOneToNine() {
        for (int n = 1; n <= 9; n++) {
            lives("life " + n, 0, n);
        }
    }

    private static void shortWithEachLife() {
        lives("", SHORT, 2);
        for (int n = 1; n <= 9; n++) {
            lives("life " + n, SHORT, Math.min(n, 2));
        }
    }

    /** A TICKET that has all its TICKS but one lives; with that it ends, and has no more. */
    private static void lives(String house, int rules, int n) {
        TicketJudge x = Check.judge(house);
        Check.row(x, rules, 1);
        for (int ticks = 1; ticks <= n + 2; ticks++) {
            due("11: '" + house + "' a TICK", x.letter(10), 1);
            due("13: '" + house + "' lives with " + ticks, x.ticket(0, 0), ticks < n ? 1 : 0);
            due("13: '" + house + "' TICKS", x.ticket(0, 3), Math.min(ticks, n));
            due("11: '" + house + "' acts", x.letter(3), ticks < n ? 1 : 0);
        }
    }

    private static void neverWithoutLife() {
        for (int rules : new int[] {0, 127 - SHORT}) {
            TicketJudge x = Check.judge("early links keep stay told forms");
            Check.row(x, rules, 1);
            for (int k = 0; k < 300; k++) {
                x.letter(10);
            }
            due("13: it lives", x.ticket(0, 0), 1);
            due("13: no TICKS", x.ticket(0, 3), 0);
            due("12: all are done", x.row(0), 301);
        }
    }

    private static void ticksOfThoseThatLiveAlone() {
        TicketJudge x = Check.judge("life 9 links");
        Check.row(x, 0, 1, 10, 2, 8, 10, 10, 1, 10);
        int[][] want = {{0, 1, 0, 1}, {1, 2, 1, 3}, {1, 1, 0, 1}};
        for (int t = 0; t < 3; t++) {
            for (int what = 0; what < 4; what++) {
                due("13: ticket(" + t + ", " + what + ")", x.ticket(t, what), want[t][what]);
            }
        }
        TicketJudge y = Check.judge("life 9 keep");
        Check.row(y, 0, 1, 10, 10, 1);
        due("13: a kept one keeps its TICKS", y.ticket(0, 3), 2);
        Check.row(y, TURN, 1, 10, 10, 1);
        due("13: a turned one begins with 0", y.ticket(1, 3), 0);
        due("13: the old one has what it had", y.ticket(0, 3), 2);
        y.letter(10);
        due("13: and no more", y.ticket(0, 3), 2);
    }

    private static void nineTicksOfEachTicket() {
        TicketJudge x = Check.judge("life 9 stay");
        Check.row(x, 0, 1, 8, 1, 8);
        for (int ticks = 1; ticks <= 10; ticks++) {
            x.letter(10);
            for (int t = 0; t < 4; t++) {
                due("13: TICKS of " + t, x.ticket(t, 3), Math.min(ticks, 9));
                due("13: lives " + t, x.ticket(t, 0), ticks < 9 ? 1 : 0);
                due("13: of somebody " + t, x.ticket(t, 1), 1 + t % 2);
                due("13: BOUND " + t, x.ticket(t, 2), t % 2);
            }
            due("12: given", x.row(4), 4);
            due("12: the VISITOR's STORE", x.row(1), 2);
            due("12: the STRANGER's", x.row(2), 3);
            due("12: he KNOWS", x.row(3), 10);
        }
    }

    /** A TICKET of nobody is the VISITOR's, then the STRANGER's, then the VISITOR's again. */
    private static void eachTicketChangesHands() {
        for (int number = 0; number < 4; number++) {
            TicketJudge x = Check.judge("early links keep");
            x.begin(0);
            for (int k = 0; k < number; k++) {
                x.letter(1);
                x.letter(2);
            }
            x.letter(7);
            x.letter(4);
            due("12: TICKET " + number, x.row(1), number);
            int[] logins = {1, 8, 1, 1, 8, 8};
            for (int l : logins) {
                due("11: letter(" + l + ")", x.letter(l), 1);
                due("13: of whom " + number, x.ticket(number, 1), l == 1 ? 1 : 2);
                due("13: BOUND " + number, x.ticket(number, 2), l == 1 ? 0 : 1);
                due("13: it lives", x.ticket(number, 0), 1);
            }
            due("12: given", x.row(4), number + 1);
        }
    }

    private static void noSuchLetter() {
        TicketJudge x = Check.judge("early links keep told forms life 3");
        Check.row(x, 0, 7, 4, 1);
        String before = Check.rowLooks(x);
        for (int l : new int[] {-1, 11, -2, 12, 15, 16, 32, 64, -10, 256, 1 << 31, MIN, MAX, MIN + 9, 65545}) {
            due("11: letter(" + l + ")", x.letter(l), -1);
        }
        CHECK.same("11: nothing happens", Check.rowLooks(x), before);
        due("11: letter(10) is one", x.letter(10), 1);
        due("11: letter(0) is one", x.letter(0), 1);
    }

    private static void behindAFlaw() {
        int[][] rows = {{1, 6, 9}, {1, 5}, {8, 4, 3}};
        for (int kind = 1; kind <= 3; kind++) {
            TicketJudge x = Check.judge("early links keep stay told forms life 3");
            due("11: FLAW " + kind, Check.row(x, 0, rows[kind - 1]), 1 + kind);
            due("12: it ended with a FLAW", x.row(5), 1);
            due("12: the LETTER is done", x.row(0), rows[kind - 1].length);
            String before = Check.rowLooks(x);
            for (int l = -1; l <= 11; l++) {
                due("11: letter(" + l + ") behind FLAW " + kind, x.letter(l), -1);
            }
            CHECK.same("11: nothing happens", Check.rowLooks(x), before);
            Check.house(x, "");
            due("11: nor with another HOUSE", x.letter(0), -1);
            due("10: begin", x.begin(0) ? 1 : 0, 1);
            due("12: no FLAW", x.row(5), 0);
            due("11: letters go again", x.letter(1), 1);
        }
    }

    private static void rulesOfARow() {
        TicketJudge x = new TicketJudge();
        for (int rules = 0; rules < 128; rules++) {
            due("10: begin(" + rules + ")", x.begin(rules) ? 1 : 0, 1);
            due("18: count(2)", x.count(2), rules);
        }
        for (int rules : new int[] {128, 129, 255, 256, -1, -127, -128, MIN, MAX, MIN + 5}) {
            due("10: begin(" + rules + ")", x.begin(rules) ? 1 : 0, 0);
            due("18: count(2)", x.count(2), 127);
        }
    }

    private static void aRowBeginsAnew() {
        TicketJudge x = Check.judge("early links keep told life 5");
        x.begin(0);
        String empty = Check.rowLooks(x);
        Check.row(x, 0, 7, 0, 6, 10, 4, 1, 9);
        String full = Check.rowLooks(x);
        due("10: begin(128)", x.begin(128) ? 1 : 0, 0);
        due("10: begin(-1)", x.begin(-1) ? 1 : 0, 0);
        CHECK.same("10: nothing happens", Check.rowLooks(x), full);
        due("11: behind the FLAW still", x.letter(10), -1);
        x.begin(0);
        CHECK.same("10: from all empty on", Check.rowLooks(x), empty);
        due("11: the first TICKET is 0 again", x.letter(7), 1);
        due("12: TICKET 0", x.row(2), 0);
        due("13: no TICKS", x.ticket(0, 3), 0);
        due("13: of nobody", x.ticket(0, 1), 0);
    }

    private static void whatOfARow() {
        TicketJudge x = Check.judge("");
        Check.row(x, 0, 8, 8, 8, 8);
        int[] want = {4, -1, 3, 15, 4, 0};
        for (int what = 0; what <= 5; what++) {
            due("12: row(" + what + ")", x.row(what), want[what]);
        }
        for (int what : new int[] {-1, 6, 7, -2, 32, 256, MIN, MAX}) {
            due("12: row(" + what + ")", x.row(what), -1);
        }
    }

    private static void whatOfATicket() {
        for (int given = 0; given <= 4; given++) {
            TicketJudge x = Check.judge("life 9");
            x.begin(0);
            for (int k = 0; k < given; k++) {
                x.letter(1);
            }
            for (int t = 0; t < 5; t++) {
                due("13: given " + given + " ticket(" + t + ", 0)", x.ticket(t, 0), t < given ? 1 : -1);
                due("13: given " + given + " ticket(" + t + ", 1)", x.ticket(t, 1), t < given ? 1 : -1);
                due("13: given " + given + " ticket(" + t + ", 2)", x.ticket(t, 2), t < given ? 0 : -1);
                due("13: given " + given + " ticket(" + t + ", 3)", x.ticket(t, 3), t < given ? 0 : -1);
                due("13: given " + given + " ticket(" + t + ", 4)", x.ticket(t, 4), -1);
                due("13: given " + given + " ticket(" + t + ", -1)", x.ticket(t, -1), -1);
            }
            for (int t : new int[] {-1, 8, 32, 64, -4, MIN, MAX}) {
                due("13: ticket(" + t + ", 0)", x.ticket(t, 0), -1);
                due("13: ticket(0, " + t + ")", x.ticket(0, t), -1);
            }
        }
    }

    private static void whatHeKnowsStays() {
        TicketJudge x = Check.judge("told life 1 links");
        due("11: his own, then another", Check.row(x, TURN, 8, 8), 1);
        due("12: what was in his STORE he KNOWS", x.row(3), 3);
        due("12: he has the second", x.row(2), 1);
        x.letter(1);
        due("12: the VISITOR's he KNOWS not", x.row(3), 3);
        x.letter(10);
        due("12: those that ended he KNOWS", x.row(3), 3);
        x.letter(6);
        due("12: what he read, too", x.row(3), 7);
        x.letter(4);
        due("12: a link tells him nothing", x.row(3), 7);
    }

    private static void anotherHouseAmidARow() {
        TicketJudge x = Check.judge("early life 9");
        Check.row(x, 0, 0, 7, 10, 10);
        String before = Check.rowLooks(x);
        Check.house(x, "told");
        CHECK.same("4: the row is as it was", Check.rowLooks(x), before);
        x.letter(10);
        due("11: no TICKS without life", x.ticket(0, 3), 2);
        Check.house(x, "life 2");
        due("13: it ends as a TICK goes by", x.ticket(0, 0), 1);
        x.letter(10);
        due("13: then", x.ticket(0, 0), 0);
        due("13: with three", x.ticket(0, 3), 3);
        Check.house(x, "x");
        Check.house(x, "early");
        due("11: a visit by the HOUSE of now", x.letter(0), 1);
        due("12: it gives one", x.row(1), 2);
    }

    private static void aRowOfFiveHundredLetters() {
        TicketJudge x = new TicketJudge();
        for (int k = 1; k <= 500; k++) {
            x.letter(k % 2 == 0 ? 0 : 10);
        }
        due("12: LETTERS done", x.row(0), 500);
        x.letter(3);
        due("12: a REFUSED one is none", x.row(0), 500);
    }
}
