/** Edges of promises 7 to 9 and 14 to 18: TASKS, walks of each LENGTH, SPENT, THE CHEAPEST RULES. */
public final class WalkEdgesTest {
    private static final Check CHECK = new Check();
    private static final int MIN = Integer.MIN_VALUE;
    private static final int MAX = Integer.MAX_VALUE;
    private static final String ALL = "early links keep stay told forms";

    public static void main(String[] args) {
        tasksOfOneToEightLetters();
        tasksOfTheseLettersAlone();
        sixTasksAtMost();
        goesOfOthers();
        tasksGoFromAllEmptyOn();
        dropOfNoneAndAll();
        eachLengthOfAWalk();
        eachSetOfKinds();
        lengthsAndKindsOfOthers();
        aRowAsLongAsTheLength();
        flawsOfOtherKinds();
        theFirstByLetters();
        statesOfShortWalks();
        statesUpToOneLess();
        spentBeyondTwentyThousand();
        spentLeavesNoRow();
        leastOfOthers();
        walkedOfOthers();
        theLatestWalkAlone();
        fiveHundredWalks();
        mendWithoutRules();
        mendByCost();
        mendByFewestThenLeast();
        mendDearest();
        mendByEachRuleAlone();
        mendKeepsTasks();
        mendWithSpentSets();
        mendChangesNothing();
        countOfOthers();
        CHECK.finish();
    }

    private static void due(String call, long got, long want) {
        CHECK.due(call, got, want);
    }

    private static void row(String call, TicketJudge x, int... letters) {
        for (int k = 0; k <= 11; k++) {
            due(call + " least(" + k + ")", x.least(k), k < letters.length ? letters[k] : -1);
        }
    }

    private static void tasksOfOneToEightLetters() {
        for (int n : new int[] {0, -1, 9, 10, 16, 17, 32, MIN, MAX, MIN + 1}) {
            TicketJudge x = new TicketJudge();
            due("7: task(" + n + ", ..)", x.task(n, 0), -1);
            due("18: none came", x.count(1), 0);
        }
        for (int n = 1; n <= 8; n++) {
            TicketJudge x = new TicketJudge();
            // Its n LETTERS are logins: more than four don't go.
            due("7: task(" + n + ", ..)", x.task(n, 0x11111111L), 0);
            due("8: goes", x.goes(0, 0), n <= 4 ? 1 : 0);
        }
    }

    private static void tasksOfTheseLettersAlone() {
        for (int l = 0; l < 16; l++) {
            boolean fits = l <= 3 || l == 10;
            for (int place = 0; place < 8; place++) {
                long letters = (long) l << 4 * place;
                TicketJudge x = new TicketJudge();
                due("7: LETTER " + l + " at " + place, x.task(8, letters), fits ? 0 : -1);
                due("18: TASKS", x.count(1), fits ? 1 : 0);
                if (place > 0) {
                    due("7: LETTER " + l + " behind the last", x.task(place, letters), fits ? 1 : 0);
                }
            }
        }
        TicketJudge x = new TicketJudge();
        due("7: bits behind the eighth", x.task(8, 0xFFFFFFFF00000000L), 0);
        due("7: the eighth is 10", x.task(8, 0xA0000000L), 1);
        due("8: it goes", x.goes(1, 0), 1);
        due("7: all bits", x.task(8, -1L), -1);
        due("7: the least number of all", x.task(8, Long.MIN_VALUE), 2);
        due("7: the eighth is 8", x.task(8, 0x80000000L), -1);
    }

    private static void sixTasksAtMost() {
        TicketJudge x = new TicketJudge();
        for (int k = 0; k < 6; k++) {
            due("7: task " + k, x.task(1, k % 3 == 0 ? 3 : 1), k);
            due("18: count(1)", x.count(1), k + 1);
        }
        due("7: a seventh", x.task(1, 0), -1);
        due("7: and again", x.task(8, 0), -1);
        due("7: a wrong seventh", x.task(0, 0), -1);
        due("18: count(1)", x.count(1), 6);
        for (int k = 0; k < 6; k++) {
            due("8: they are as they were", x.goes(k, 0), k % 3 == 0 ? 0 : 1);
        }
    }

    private static void goesOfOthers() {
        TicketJudge x = new TicketJudge();
        due("8: without a TASK", x.goes(0, 0), -1);
        x.task(1, 1);
        x.task(1, 3);
        for (int rules = 0; rules < 128; rules++) {
            due("8: goes(0, " + rules + ")", x.goes(0, rules), 1);
            due("8: goes(1, " + rules + ")", x.goes(1, rules), 0);
        }
        for (int n : new int[] {128, 129, 255, 256, -1, -128, MIN, MAX}) {
            due("8: goes(0, " + n + ")", x.goes(0, n), -1);
            due("8: goes(1, " + n + ")", x.goes(1, n), -1);
        }
        for (int n : new int[] {2, 3, 5, 6, 7, -1, MIN, MAX}) {
            due("8: goes(" + n + ", 0)", x.goes(n, 0), -1);
        }
    }

    private static void tasksGoFromAllEmptyOn() {
        TicketJudge x = new TicketJudge();
        x.task(1, 3);
        x.task(1, 1);
        Check.row(x, 0, 1, 1, 1, 1);
        due("8: not from the row on", x.goes(0, 0), 0);
        due("8: four are given in the row alone", x.goes(1, 0), 1);
        Check.house(x, "life 1");
        x.task(3, 0x3A1);
        due("8: by the HOUSE of now", x.goes(2, 0), 0);
        Check.house(x, "");
        due("8: and of then", x.goes(2, 0), 1);
        due("8: short lets one TICK by", x.goes(2, 64), 1);
        x.task(4, 0x3AA1);
        due("8: but not two", x.goes(3, 64), 0);
        due("8: without short", x.goes(3, 63), 1);
    }

    private static void dropOfNoneAndAll() {
        TicketJudge x = new TicketJudge();
        due("9: drop() of none", x.drop(), 0);
        for (int round = 0; round < 3; round++) {
            for (int k = 0; k < 6; k++) {
                due("7: numbers begin anew", x.task(1, 3), k);
            }
            due("9: drop() of six", x.drop(), 6);
            due("9: again", x.drop(), 0);
            due("18: count(1)", x.count(1), 0);
            due("8: goes(0, 0)", x.goes(0, 0), -1);
        }
        due("7: a new one", x.task(1, 1), 0);
        due("8: is not the old one", x.goes(0, 0), 1);
    }

    private static void eachLengthOfAWalk() {
        TicketJudge x = Check.judge(ALL);
        for (int length = 1; length <= 10; length++) {
            due("14: SENT to " + length, x.walk(0, length, 2), length < 2 ? 0 : 2);
            due("14: RIDES to " + length, x.walk(0, length, 1), length < 3 ? 0 : 3);
            due("14: RIDES, silent, to " + length, x.walk(32, length, 1), length < 4 ? 0 : 4);
        }
    }

    private static void eachSetOfKinds() {
        TicketJudge x = Check.judge(ALL);
        for (int kinds = 1; kinds <= 7; kinds++) {
            boolean sent = (kinds & 2) != 0;
            boolean rides = (kinds & 1) != 0;
            String call = "14: kinds " + kinds;
            due(call, x.walk(0, 9, kinds), sent ? 2 : 3);
            due(call + " walked(1)", x.walked(1), sent ? 2 : rides ? 1 : 3);
            row(call, x, sent ? new int[] {1, 5} : rides ? new int[] {1, 6, 9} : new int[] {8, 4, 3});
        }
    }

    private static void lengthsAndKindsOfOthers() {
        TicketJudge x = Check.judge(ALL);
        for (int n : new int[] {0, 11, 12, 100, -1, -10, MIN, MAX}) {
            due("14: walk(0, " + n + ", 7)", x.walk(0, n, 7), -1);
            due("17: mend(" + n + ", 7)", x.mend(n, 7), -1);
        }
        for (int n : new int[] {0, 8, 9, 15, 16, -1, -8, MIN, MAX}) {
            due("14: walk(0, 3, " + n + ")", x.walk(0, 3, n), -1);
            due("17: mend(3, " + n + ")", x.mend(3, n), -1);
        }
        for (int n : new int[] {128, 129, 255, 256, -1, -128, MIN, MAX}) {
            due("14: walk(" + n + ", 3, 7)", x.walk(n, 3, 7), -1);
        }
        due("16: none of these is a walk", x.walked(0), -1);
        due("14: walk(127, 10, 7)", x.walk(127, 10, 7), 0);
        due("14: walk(0, 1, 1)", x.walk(0, 1, 1), 0);
    }

    private static void aRowAsLongAsTheLength() {
        TicketJudge x = Check.judge("early links keep");
        due("14: one less", x.walk(0, 3, 1), 0);
        due("15: no row", x.least(0), -1);
        int met = x.walked(0);
        due("14: just as long", x.walk(0, 4, 1), 4);
        row("15: just as long", x, 7, 4, 1, 9);
        due("16: the same STATES", x.walked(0), met);
        due("14: longer", x.walk(0, 10, 1), 4);
        row("15: longer", x, 7, 4, 1, 9);
        due("16: the same STATES", x.walked(0), met);
    }

    private static void flawsOfOtherKinds() {
        TicketJudge x = Check.judge("forms");
        due("14: SENT counts nothing", x.walk(0, 7, 5), 0);
        due("16: no kind", x.walked(1), 0);
        int met = x.walked(0);
        due("14: without it", x.walk(8, 7, 7), 0);
        due("16: as many STATES", x.walked(0), met);
        TicketJudge y = Check.judge("told");
        due("14: RIDES counts nothing", y.walk(0, 5, 6), 0);
        TicketJudge z = Check.judge("links");
        due("14: SWAPPED counts nothing", z.walk(0, 5, 3), 0);
    }

    private static void theFirstByLetters() {
        TicketJudge x = Check.judge("told links");
        due("14: 1 6 9 and 8 4 3", x.walk(0, 5, 5), 3);
        row("15: the first of them", x, 1, 6, 9);
        TicketJudge y = Check.judge("links early stay keep forms");
        due("14: a visit first is longer", y.walk(0, 5, 2), 2);
        row("15: the shortest", y, 1, 5);
        TicketJudge z = Check.judge("links keep");
        due("14: 8 4 1 9", z.walk(0, 5, 1), 4);
        row("15: without early", z, 8, 4, 1, 9);
    }

    private static void statesOfShortWalks() {
        TicketJudge x = new TicketJudge();
        x.walk(0, 1, 7);
        // All empty; a login of each.
        due("16: STATES to 1", x.walked(0), 3);
        x.walk(0, 2, 7);
        // Behind 1: left, a second one, his; behind 8: the VISITOR's, a second one.
        due("16: STATES to 2", x.walked(0), 8);
        TicketJudge y = Check.judge("early");
        y.walk(0, 1, 7);
        due("16: and a visit of each", y.walked(0), 5);
        TicketJudge z = Check.judge("life 9");
        z.walk(0, 1, 7);
        due("16: a TICK of none is nothing new", z.walked(0), 3);
        z.walk(0, 2, 7);
        due("16: a TICK of each", z.walked(0), 10);
        for (int rules : new int[] {0, 64}) {
            for (int length = 1; length <= 7; length++) {
                Model model = new Model();
                model.read("life 2 stay");
                TicketJudge w = Check.judge("life 2 stay");
                w.walk(rules, length, 7);
                due("16: STATES to " + length, w.walked(0), model.walk(rules, length, 7).met);
            }
        }
    }

    private static void statesUpToOneLess() {
        TicketJudge x = Check.judge("forms");
        due("14: 1 5", x.walk(0, 10, 7), 2);
        due("16: STATES of one LETTER", x.walked(0), 3);
        TicketJudge y = Check.judge("told");
        due("14: 1 6 9", y.walk(0, 10, 7), 3);
        int least = y.walked(0);
        y.walk(0, 2, 7);
        due("16: STATES of two", least, y.walked(0));
        y.walk(0, 2, 2);
        due("16: STATES of two, none of the kind", least, y.walked(0));
    }

    private static void spentBeyondTwentyThousand() {
        // Of all HOUSES, sets of RULES and LENGTHS these come nearest to 20000 from both sides.
        TicketJudge x = Check.judge("early links stay life 3");
        due("14: 19585 of them", x.walk(0, 10, 1), 0);
        due("16: 19585 of them", x.walked(0), 19585);
        TicketJudge y = Check.judge("links keep told life 4");
        due("14: 20060 of them", y.walk(0, 10, 2), -2);
        due("16: no more than 20000", y.walked(0), 20000);
        due("14: one LETTER less", y.walk(0, 9, 2), 0);
        due("16: fewer", y.walked(0) < 20000 ? 1 : 0, 1);
        due("14: SPENT again", y.walk(0, 10, 2), -2);
        due("14: a LEAST ROW is not SPENT", y.walk(0, 10, 1), 3);
    }

    private static void spentLeavesNoRow() {
        TicketJudge x = Check.judge("links keep told life 4");
        x.walk(0, 10, 1);
        row("15: a row", x, 1, 6, 9);
        due("16: its kind", x.walked(1), 1);
        due("14: SPENT", x.walk(0, 10, 2), -2);
        row("15: no row", x);
        due("16: no kind", x.walked(1), 0);
        due("16: STATES", x.walked(0), 20000);
    }

    private static void leastOfOthers() {
        TicketJudge x = Check.judge("links keep");
        row("15: ahead of any", x);
        x.walk(0, 0, 1);
        row("15: ahead of any but NONE", x);
        x.walk(0, 5, 1);
        for (int k : new int[] {-1, 4, 5, 9, 10, 11, 32, MIN, MAX, MIN + 1}) {
            due("15: least(" + k + ")", x.least(k), -1);
        }
        due("15: the last one", x.least(3), 9);
        x.walk(0, 3, 1);
        row("15: a walk without a row", x);
    }

    private static void walkedOfOthers() {
        TicketJudge x = Check.judge("links");
        for (int what : new int[] {-1, 0, 1, 2, MIN, MAX}) {
            due("16: ahead of any walked(" + what + ")", x.walked(what), -1);
        }
        x.walk(0, 3, 4);
        for (int what : new int[] {-1, 2, 3, 10, 32, 33, MIN, MAX}) {
            due("16: walked(" + what + ")", x.walked(what), -1);
        }
        due("16: walked(1)", x.walked(1), 3);
    }

    private static void theLatestWalkAlone() {
        TicketJudge x = Check.judge(ALL);
        x.walk(0, 5, 4);
        int met = x.walked(0);
        x.walk(128, 5, 7);
        x.walk(0, 11, 7);
        x.walk(0, 5, 8);
        x.mend(5, 7);
        Check.house(x, "");
        x.begin(3);
        x.letter(1);
        row("15: what is no walk leaves it", x, 8, 4, 3);
        due("16: STATES", x.walked(0), met);
        due("16: kind", x.walked(1), 3);
        due("14: a walk by the HOUSE of now", x.walk(0, 5, 7), 0);
        row("15: another", x);
    }

    private static void fiveHundredWalks() {
        TicketJudge x = Check.judge("links keep told life 4");
        for (int k = 0; k < 160; k++) {
            due("14: SPENT, walk " + k, x.walk(0, 10, 2), -2);
            due("14: to 3, walk " + k, x.walk(k % 128, 3, 2), 0);
            due("14: RIDES, walk " + k, x.walk(0, 10, 1), 3);
        }
    }

    private static void mendWithoutRules() {
        TicketJudge x = new TicketJudge();
        for (int length = 1; length <= 7; length++) {
            due("17: nothing to mend, to " + length, x.mend(length, 7), 0);
        }
        for (int rule = 0; rule < 7; rule++) {
            x.cost(rule, 0);
        }
        due("17: none for nothing, too", x.mend(5, 7), 0);
        TicketJudge y = Check.judge(ALL);
        due("17: too short for a FLAW", y.mend(1, 7), 0);
        due("17: too short for RIDES", y.mend(2, 5), 0);
        due("17: just long enough for SENT", y.mend(2, 7), 8);
        due("17: just long enough", y.mend(3, 7), 12);
    }

    private static void mendByCost() {
        // SWAPPED ends by bind (4) or by nolinks (16).
        TicketJudge x = Check.judge("links");
        for (int bind = 0; bind <= 99; bind += 33) {
            for (int nolinks = 0; nolinks <= 99; nolinks += 33) {
                x.cost(2, bind);
                x.cost(4, nolinks);
                due("17: " + bind + " or " + nolinks, x.mend(5, 7), nolinks < bind ? 16 : 4);
            }
        }
        x.cost(2, 99);
        x.cost(4, 98);
        due("17: one coin less", x.mend(5, 7), 16);
    }

    private static void mendByFewestThenLeast() {
        // RIDES and SWAPPED end by bind (4), or by nolinks and silent (48).
        TicketJudge x = Check.judge("links told");
        x.cost(2, 2);
        due("17: two coins, one RULE or two", x.mend(5, 5), 4);
        x.cost(2, 3);
        due("17: three coins or two", x.mend(5, 5), 48);
        x.cost(4, 0);
        x.cost(5, 3);
        due("17: three coins, one RULE or two", x.mend(5, 5), 4);
        for (int rule = 0; rule < 7; rule++) {
            x.cost(rule, 0);
        }
        due("17: for nothing, the fewest", x.mend(5, 5), 4);
        due("17: for nothing, the least number", x.mend(5, 4), 4);
        due("17: for nothing, RIDES", x.mend(5, 1), 4);
        x.cost(2, 1);
        due("17: for nothing, two of them", x.mend(5, 5), 48);
    }

    private static void mendDearest() {
        TicketJudge x = Check.judge(ALL);
        for (int rule = 0; rule < 7; rule++) {
            x.cost(rule, 99);
        }
        due("17: two for 198", x.mend(6, 7), 12);
        x.cost(4, 50);
        x.cost(5, 49);
        due("17: three for 198", x.mend(6, 7), 12);
        x.cost(4, 49);
        due("17: three for 197", x.mend(6, 7), 56);
    }

    private static void mendByEachRuleAlone() {
        String[] houses = {"early links keep", "told", "forms", "links", "told", "early life 4"};
        int[] kinds = {1, 1, 2, 4, 1, 7};
        int[] lengths = {5, 5, 5, 5, 5, 10};
        int[] rules = {0, 2, 3, 4, 5, 6};
        for (int k = 0; k < houses.length; k++) {
            TicketJudge x = Check.judge(houses[k]);
            for (int rule = 0; rule < 7; rule++) {
                x.cost(rule, rule == rules[k] ? 98 : 99);
            }
            due("17: '" + houses[k] + "' by RULE " + rules[k], x.mend(lengths[k], kinds[k]), 1 << rules[k]);
        }
    }

    private static void mendKeepsTasks() {
        TicketJudge x = Check.judge("links keep early");
        due("17: turn", x.mend(4, 1), 1);
        x.task(5, 0x11111);
        due("17: five logins go by keep alone", x.mend(4, 1), 4);
        x.drop();
        x.task(4, 0x1111);
        due("17: four go with turn", x.mend(4, 1), 1);
        x.task(1, 3);
        due("17: what goes not without RULES need not", x.mend(4, 1), 1);
        for (int k = 0; k < 4; k++) {
            x.task(5, 0x11111);
        }
        due("17: the sixth TASK counts", x.mend(4, 1), 4);
        TicketJudge y = Check.judge("early life 4");
        y.task(4, 0x3AA1);
        due("17: a TASK that short ends, nothing else to 10", y.mend(10, 7), -2);
        due("9: drop()", y.drop(), 1);
        due("17: short", y.mend(10, 7), 64);
    }

    private static void mendWithSpentSets() {
        TicketJudge x = Check.judge("links keep told life 4");
        due("14: SPENT without RULES", x.walk(0, 10, 2), -2);
        int set = x.mend(10, 2);
        due("17: a set that is not SPENT", x.walk(set, 10, 2), 0);
        due("17: to 9 none is needed", x.mend(9, 2), 0);
        TicketJudge y = Check.judge("early told links stay life 9");
        due("17: bind is SPENT but with silent and short", y.mend(10, 7), 4 + 32 + 64);
        due("14: SPENT without short", y.walk(127 - 64, 10, 7), -2);
        y.task(4, 0x3AA1);
        due("17: none does", y.mend(10, 7), -2);
        due("17: nor for nothing", y.cost(2, 0) + y.mend(10, 7), 1 - 2);
        due("17: to 5 bind does", y.mend(5, 7), 4);
    }

    private static void mendChangesNothing() {
        TicketJudge x = Check.judge(ALL + " life 5");
        x.cost(3, 9);
        x.task(2, 0x31);
        x.walk(0, 4, 1);
        Check.row(x, 2, 7, 4, 10);
        Check.put(x, "told");
        String before = Check.looks(x);
        due("17: a set", x.mend(4, 7), 12);
        due("17: length 0", x.mend(0, 7), -1);
        due("17: kinds 0", x.mend(4, 0), -1);
        CHECK.same("17: nothing happens", Check.looks(x), before);
        due("17: the same again", x.mend(4, 7), 12);
        due("4: the TAPE is as it was", x.house(), 1);
    }

    private static void countOfOthers() {
        TicketJudge x = new TicketJudge();
        for (int what : new int[] {-1, 3, 4, 5, 6, 7, 8, 9, 17, 18, 32, 42, 256, -10, MIN, MAX}) {
            due("18: count(" + what + ")", x.count(what), -1);
        }
        for (int what = 10; what <= 16; what++) {
            due("18: count(" + what + ")", x.count(what), 1);
            x.cost(what - 10, what);
        }
        for (int what = 10; what <= 16; what++) {
            due("18: count(" + what + ")", x.count(what), what);
        }
    }
}
