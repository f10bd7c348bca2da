/** Each promise of the document by itself: ordinary inputs, the edges it names, wrong inputs. */
public final class PromiseTest {
    private static final Check CHECK = new Check();
    private static final int[] WRONG_NUMBERS = {Integer.MIN_VALUE, -2, -1, Integer.MAX_VALUE};

    public static void main(String[] args) {
        newObject();
        feed();
        end();
        house();
        houseFaults();
        has();
        cost();
        task();
        goes();
        drop();
        begin();
        letterVisits();
        letterLogsIn();
        letterLeaves();
        letterActs();
        letterFollows();
        letterForms();
        letterShows();
        letterRides();
        letterTicks();
        letterWrong();
        rulesTurnAndBind();
        newHouseAmidRow();
        row();
        ticket();
        walk();
        walkSpent();
        least();
        walked();
        mend();
        mendTasksAndSpent();
        count();
        CHECK.finish();
    }

    private static void due(String call, long got, long want) {
        CHECK.due(call, got, want);
    }

    private static void newObject() {
        TicketJudge x = new TicketJudge();
        for (int w = 0; w <= 6; w++) {
            due("1: has(" + w + ")", x.has(w), 0);
        }
        due("1: count(0)", x.count(0), 0);
        due("1: count(1)", x.count(1), 0);
        due("1: drop()", x.drop(), 0);
        due("1: house()", x.house(), 0);
        due("1: NONE", TicketJudge.NONE, -1);
    }

    private static void feed() {
        TicketJudge x = new TicketJudge();
        for (int k = 1; k <= 10; k++) {
            due("2: feed " + k, x.feed(0, -1, 1, 2, 3), 20 * k);
        }
        due("2: feed over 200", x.feed(0, 0, 0, 0, 0), -1);
        due("2: count(0) behind it", x.count(0), 200);
        due("2: end(181)", x.end(181), 181);
        due("2: feed at 181", x.feed(0, 0, 0, 0, 0), -1);
        due("2: count(0) at 181", x.count(0), 181);
        due("2: end(180)", x.end(180), 180);
        due("2: feed at 180", x.feed(0, 0, 0, 0, 0), 200);

        TicketJudge y = new TicketJudge();
        y.feed(0x20202020, 0x20202020, 0x20202020, 0x20202020, 0x2020206b);
        y.feed(0x65657020, 0x20202020, 0x20202020, 0x20202020, 0x20202020);
        due("2: a word over two feeds", y.house(), 1);
        due("2: keep", y.has(2), 1);

        TicketJudge z = new TicketJudge();
        z.feed(0x20202020, 0x202020ff, 0, 0, 0);
        due("2: bytes above 127", z.house(), -2 - (1 + 4 * 7));
    }

    private static void end() {
        TicketJudge x = new TicketJudge();
        due("3: end(0) of an empty tape", x.end(0), 0);
        due("3: end(1) of an empty tape", x.end(1), -1);
        x.feed(0x6b656570, 0x7878, 0, 0, 0);
        for (int n : new int[] {21, -1, Integer.MIN_VALUE, Integer.MAX_VALUE}) {
            due("3: end(" + n + ")", x.end(n), -1);
            due("3: count(0) behind it", x.count(0), 20);
        }
        due("3: end(20)", x.end(20), 20);
        due("3: end(4)", x.end(4), 4);
        due("3: count(0)", x.count(0), 4);
        due("3: end(5)", x.end(5), -1);
        due("3: house()", x.house(), 1);
        due("3: end(1) behind house()", x.end(1), -1);
    }

    private static void house() {
        TicketJudge x = new TicketJudge();
        due("4: all words", Check.house(x, "early links keep stay told forms life 9"), 7);
        due("4: other order", Check.house(x, " life 1   forms told  stay keep links early "), 7);
        due("4: blanks alone", Check.house(x, "   "), 0);
        due("4: has(0) behind blanks", x.has(0), 0);
        due("4: no blank ahead of the number", Check.house(x, "life7 told"), 2);
        due("4: has(6)", x.has(6), 7);
        due("4: many blanks ahead of the number", Check.house(x, "told life     4"), 2);
        due("4: has(6)", x.has(6), 4);
        due("4: two digits", Check.house(x, "life 05"), 1);
        due("4: has(6)", x.has(6), 5);
        due("4: a fault", Check.house(x, "early x"), -2 - (1 + 4 * 6));
        due("4: the tape behind a fault", x.count(0), 0);
        due("4: the house stays", x.has(6), 5);
        due("4: the house stays", x.has(0), 0);
        StringBuilder full = new StringBuilder("early");
        while (full.length() < 195) {
            full.append(' ');
        }
        due("4: 200 bytes", Check.house(x, full + "links"), 2);
        due("4: has(1)", x.has(1), 1);
        due("4: 200 bytes, life at the end", Check.house(x, full + " life"), -2 - (1 + 4 * 200));
    }

    private static void houseFaults() {
        fault("x", 0, 0);
        fault("Early", 0, 0);
        fault("karly", 0, 0);
        fault("earlyz", 0, 0);
        fault("eArly", 0, 0);
        fault("earlylinks", 0, 0);
        fault("earl y", 0, 0);
        fault("early!", 5, 0);
        fault("early5", 5, 0);
        fault("early  12", 7, 0);
        fault("5", 0, 0);
        fault(" \t", 1, 0);
        fault("life", 4, 0);
        fault("life  ", 6, 0);
        fault("life early", 5, 0);
        fault("life -1", 5, 0);
        fault("life0", 4, 1);
        fault("life 00", 5, 1);
        fault("life 10", 5, 1);
        fault("life 99", 5, 1);
        fault("life 003", 5, 1);
        fault("life 11111111111111111111", 5, 1);
        fault("life 4294967297", 5, 1);
        fault("life 3 4", 7, 0);
        fault("life 3x", 6, 0);
        fault("life 3forms", 6, 0);
        fault("early early", 6, 2);
        fault("early links early x", 12, 2);
        fault("life 3 life", 7, 2);
        fault("life 3 life 0", 7, 2);
        fault("early x early", 6, 0);
        fault("life 0 early early", 5, 1);
        fault("told \u00e9", 5, 0);
        fault("told\0", 4, 0);
    }

    private static void fault(String text, int place, int kind) {
        TicketJudge x = Check.judge("stay life 2");
        due("4: house of '" + text + "'", Check.house(x, text), -2 - (1 + 4 * place + kind));
        due("4: stay behind '" + text + "'", x.has(3), 1);
        due("4: life behind '" + text + "'", x.has(6), 2);
        due("4: words behind '" + text + "'", x.has(0) + x.has(1) + x.has(2) + x.has(4) + x.has(5), 0);
        due("4: tape behind '" + text + "'", x.count(0), 0);
    }

    private static void has() {
        String[] words = {"early", "links", "keep", "stay", "told", "forms", "life 6"};
        for (int w = 0; w < 7; w++) {
            TicketJudge x = Check.judge(words[w]);
            for (int k = 0; k < 7; k++) {
                due("5: '" + words[w] + "' has(" + k + ")", x.has(k), k != w ? 0 : k == 6 ? 6 : 1);
            }
            due("5: has(7)", x.has(7), -1);
            for (int n : WRONG_NUMBERS) {
                due("5: has(" + n + ")", x.has(n), -1);
            }
        }
    }

    private static void cost() {
        TicketJudge x = new TicketJudge();
        for (int r = 0; r < 7; r++) {
            due("6: cost at first", x.cost(r, 10 * r), 1);
            due("6: cost then", x.cost(r, 99), 10 * r);
            due("6: cost 0", x.cost(r, 0), 99);
            due("6: coins 100", x.cost(r, 100), -1);
            due("6: coins -1", x.cost(r, -1), -1);
            due("6: nothing happened", x.cost(r, r), 0);
        }
        due("6: rule 7", x.cost(7, 1), -1);
        for (int n : WRONG_NUMBERS) {
            due("6: rule " + n, x.cost(n, 1), -1);
            due("6: coins " + n, x.cost(0, n), -1);
        }
        for (int r = 0; r < 7; r++) {
            due("6: count(1" + r + ")", x.count(10 + r), r);
        }
    }

    private static void task() {
        TicketJudge x = new TicketJudge();
        due("7: 0 letters", x.task(0, 0), -1);
        due("7: 9 letters", x.task(9, 0), -1);
        due("7: -1 letters", x.task(-1, 0), -1);
        due("7: all of them", x.task(5, Check.packed(0, 1, 2, 3, 10)), 0);
        for (int l = 0; l < 16; l++) {
            if (l > 3 && l != 10) {
                due("7: letter " + l, x.task(1, l), -1);
                due("7: letter " + l + " as the eighth", x.task(8, Check.packed(0, 0, 0, 0, 0, 0, 0, l)), -1);
            }
        }
        due("7: nothing came", x.count(1), 1);
        due("7: what stands behind does not count", x.task(2, Check.packed(1, 3, 15, 9)), 1);
        due("7: nor up to the sign", x.task(8, -1L << 32 | Check.packed(1, 3, 1, 3, 1, 3, 1, 3)), 2);
        due("7: one letter", x.task(1, 10), 3);
        due("7: fifth", x.task(1, 0), 4);
        due("7: sixth", x.task(1, 1), 5);
        due("7: seventh", x.task(1, 1), -1);
        due("7: count(1)", x.count(1), 6);
        due("7: goes what stands ahead", x.goes(1, 0), 1);
    }

    private static void goes() {
        TicketJudge x = Check.judge("early keep life 3");
        x.task(2, Check.packed(1, 3));
        x.task(1, Check.packed(3));
        x.task(2, Check.packed(0, 3));
        x.task(4, Check.packed(1, 10, 10, 3));
        x.task(8, Check.packed(1, 1, 1, 1, 1, 1, 1, 3));
        x.task(5, Check.packed(1, 10, 10, 10, 3));
        int[] without = {1, 0, 0, 1, 1, 0};
        for (int k = 0; k < 6; k++) {
            due("8: goes(" + k + ", 0)", x.goes(k, 0), without[k]);
        }
        due("8: short", x.goes(3, 64), 0);
        due("8: turn takes TICKETS", x.goes(4, 1), 0);
        due("8: bind", x.goes(4, 4), 1);
        due("8: all rules", x.goes(0, 127), 1);
        due("8: no such task", x.goes(6, 0), -1);
        due("8: rules 128", x.goes(0, 128), -1);
        for (int n : WRONG_NUMBERS) {
            due("8: task " + n, x.goes(n, 0), -1);
            due("8: rules " + n, x.goes(0, n), -1);
        }
        TicketJudge y = Check.judge("stay");
        y.task(4, Check.packed(1, 2, 1, 3));
        y.task(2, Check.packed(1, 2));
        y.task(3, Check.packed(1, 2, 2));
        y.task(3, Check.packed(1, 2, 3));
        due("8: in, out, in, act", y.goes(0, 0), 1);
        due("8: in, out", y.goes(1, 2), 1);
        due("8: out twice", y.goes(2, 0), 0);
        due("8: act when out", y.goes(3, 0), 0);
        Check.row(y, 0, 8);
        due("8: from all empty on", y.goes(0, 0), 1);
        due("8: the row is as it was", y.row(0), 1);
    }

    private static void drop() {
        TicketJudge x = new TicketJudge();
        due("9: drop of none", x.drop(), 0);
        x.task(1, 0);
        x.task(1, 1);
        due("9: drop of two", x.drop(), 2);
        due("9: drop again", x.drop(), 0);
        due("9: goes", x.goes(0, 0), -1);
        due("9: a task behind it", x.task(1, 3), 0);
        due("9: it is the new one", x.goes(0, 0), 0);
    }

    private static void begin() {
        TicketJudge x = Check.judge("links keep told early");
        due("10: rules at first", x.count(2), 0);
        Check.row(x, 0, 7, 4, 1, 9);
        due("10: flaw", x.row(5), 1);
        for (int n : new int[] {128, -1, Integer.MIN_VALUE, Integer.MAX_VALUE}) {
            CHECK.due("10: begin(" + n + ")", x.begin(n), false);
        }
        due("10: nothing happened", x.row(0), 4);
        due("10: nothing happened", x.row(5), 1);
        due("10: nothing happened", x.count(2), 0);
        CHECK.due("10: begin(127)", x.begin(127), true);
        int[] anew = {0, -1, -1, 0, 0, 0};
        for (int what = 0; what < 6; what++) {
            due("10: row(" + what + ")", x.row(what), anew[what]);
        }
        due("10: count(2)", x.count(2), 127);
        due("10: ticket(0, 0)", x.ticket(0, 0), -1);
        due("10: with these rules", x.letter(7), 1);
        due("10: nolinks", x.letter(4), 0);
        CHECK.due("10: begin(0)", x.begin(0), true);
        x.letter(7);
        due("10: without", x.letter(4), 1);
    }

    private static void letterVisits() {
        TicketJudge x = Check.judge("early");
        due("11: visit", Check.row(x, 0, 0), 1);
        due("11: its ticket", x.row(1), 0);
        due("11: of nobody", x.ticket(0, 1), 0);
        due("11: bound", x.ticket(0, 2), 0);
        due("11: he knows nothing", x.row(3), 0);
        due("11: visit again", x.letter(0), 1);
        due("11: no other", x.row(4), 1);
        due("11: the stranger's", x.letter(7), 1);
        due("11: his ticket", x.row(2), 1);
        due("11: bound to his", x.ticket(1, 2), 1);
        due("11: he knows it", x.row(3), 2);
        due("11: visits are no logins", x.letter(3), 0);
        Check.row(x, 64, 0, 10, 10, 0);
        due("11: a new one when the old has ended", x.row(1), 1);
        due("11: the old one", x.ticket(0, 0), 0);
        due("11: four", Check.row(x, 64, 0, 10, 10, 0, 10, 10, 0, 10, 10, 0), 1);
        x.letter(10);
        x.letter(10);
        due("11: no fifth", x.letter(0), 0);
        due("11: nothing happens", x.row(1), 3);
        due("11: nor for the stranger", x.letter(7), 0);
        TicketJudge y = new TicketJudge();
        due("11: visit without early", Check.row(y, 0, 0, 7), 1);
        due("11: no ticket", y.row(4), 0);
        due("11: done though", y.row(0), 2);
    }

    private static void letterLogsIn() {
        TicketJudge x = Check.judge("early keep");
        due("11: login kept", Check.row(x, 0, 0, 1), 1);
        due("11: one ticket", x.row(4), 1);
        due("11: his", x.ticket(0, 1), 1);
        due("11: login without a ticket", Check.row(x, 0, 1), 1);
        due("11: a new one", x.row(1), 0);
        Check.row(x, 64, 0, 10, 10, 1);
        due("11: one that ended is not kept", x.row(1), 1);
        due("11: it is as it was", x.ticket(0, 1), 0);
        Check.row(x, 64, 1, 10, 1);
        due("11: kept TICKS go on", x.ticket(0, 3), 1);
        Check.row(x, 0, 7, 8);
        due("11: the stranger keeps, too", x.row(4), 1);
        due("11: the stranger's", x.ticket(0, 1), 2);
        TicketJudge y = Check.judge("early");
        Check.row(y, 0, 0, 1);
        due("11: new without keep", y.row(1), 1);
        due("11: the old one lives", y.ticket(0, 0), 1);
        due("11: of nobody", y.ticket(0, 1), 0);
        Check.row(y, 0, 8);
        due("11: stranger's login", y.ticket(0, 1), 2);
        due("11: bound to his", y.ticket(0, 2), 1);
        due("11: known", y.row(3), 1);
        due("11: fifth login", Check.row(y, 0, 1, 8, 1, 8, 8), 0);
        due("11: done", y.row(0), 4);
        due("11: knows", y.row(3), 10);
        due("11: his latest", y.row(2), 3);
    }

    private static void letterLeaves() {
        TicketJudge x = Check.judge("early");
        due("11: leave without a ticket", Check.row(x, 0, 2), 0);
        due("11: leave with one of nobody", Check.row(x, 0, 0, 2), 0);
        due("11: leave", Check.row(x, 0, 1, 2), 1);
        due("11: ended", x.ticket(0, 0), 0);
        due("11: still his", x.ticket(0, 1), 1);
        due("11: store", x.row(1), -1);
        due("11: leave with one that ended", Check.row(x, 64, 1, 10, 10, 2), 0);
        due("11: it stays in the store", x.row(1), 0);
        TicketJudge y = Check.judge("stay links");
        Check.row(y, 0, 1, 2);
        due("11: stay", y.ticket(0, 0), 1);
        due("11: store", y.row(1), -1);
        Check.row(y, 2, 1, 2);
        due("11: stay, rule end", y.ticket(0, 0), 0);
        due("11: leave with the stranger's", Check.row(y, 2, 8, 4, 2), 1);
        due("11: it ended", y.ticket(0, 0), 0);
        due("11: it is in his store", y.row(2), 0);
        due("11: leave with one not good, bind", Check.row(y, 4, 8, 4, 2), 1);
        due("11: stay", y.ticket(0, 0), 1);
    }

    private static void letterActs() {
        TicketJudge x = Check.judge("early links");
        due("11: act without a ticket", Check.row(x, 0, 3), 0);
        due("11: act with one of nobody", Check.row(x, 0, 0, 3), 0);
        due("11: act", Check.row(x, 0, 1, 3), 1);
        due("11: act again", x.letter(3), 1);
        due("11: act with one that ended", Check.row(x, 64, 1, 10, 10, 3), 0);
        due("11: swapped", Check.row(x, 0, 8, 4, 3), 4);
        due("11: it is over", x.letter(3), -1);
        due("11: swapped, with bind", Check.row(x, 4, 8, 4, 3), 0);
        due("11: act when bound", Check.row(x, 4, 1, 3), 1);
    }

    private static void letterFollows() {
        TicketJudge x = Check.judge("links early");
        due("11: link without a ticket", Check.row(x, 0, 4), 0);
        due("11: link", Check.row(x, 0, 7, 4), 1);
        due("11: in his store", x.row(1), 0);
        due("11: in the other's, too", x.row(2), 0);
        due("11: bound as it was", x.ticket(0, 2), 1);
        due("11: nolinks", Check.row(x, 16, 7, 4), 0);
        due("11: a link with one that ended", Check.row(x, 64, 7, 10, 10, 4), 1);
        due("11: in his store", x.row(1), 0);
        due("11: over his own", Check.row(x, 0, 1, 7, 4), 1);
        due("11: in his store", x.row(1), 1);
        due("11: no links", Check.row(Check.judge("early"), 0, 7, 4), 0);
    }

    private static void letterForms() {
        TicketJudge x = Check.judge("forms early links keep");
        due("11: form without a ticket", Check.row(x, 0, 5), 0);
        due("11: form with one of nobody", Check.row(x, 0, 0, 5), 0);
        due("11: form with the stranger's", Check.row(x, 0, 8, 4, 5), 0);
        due("11: form", Check.row(x, 0, 1, 5), 3);
        due("11: once", Check.row(x, 8, 1, 5), 0);
        due("11: ended", Check.row(x, 64, 1, 10, 10, 5), 0);
        due("11: bound", Check.row(x, 4, 1, 5), 3);
        due("11: no forms", Check.row(Check.judge("early"), 0, 1, 5), 0);
    }

    private static void letterShows() {
        TicketJudge x = Check.judge("told early");
        due("11: lines without a ticket", Check.row(x, 0, 6), 0);
        due("11: lines", Check.row(x, 0, 7, 0, 6), 1);
        due("11: knows", x.row(3), 3);
        due("11: silent", Check.row(x, 32, 0, 6), 0);
        due("11: knows", x.row(3), 0);
        due("11: lines with one that ended", Check.row(x, 64, 0, 10, 10, 6), 1);
        due("11: knows", x.row(3), 1);
        due("11: not told", Check.row(Check.judge("early"), 0, 0, 6), 0);
    }

    private static void letterRides() {
        TicketJudge x = Check.judge("told links keep early");
        due("11: knows none", Check.row(x, 0, 1, 9), 0);
        due("11: knows his own", Check.row(x, 0, 8, 9), 0);
        due("11: of nobody", Check.row(x, 0, 0, 6, 9), 0);
        due("11: read it", Check.row(x, 0, 1, 6, 9), 2);
        due("11: it is over", x.letter(10), -1);
        due("11: read it ahead", Check.row(x, 0, 0, 6, 1, 9), 2);
        due("11: fixed it", Check.row(x, 0, 7, 4, 1, 9), 2);
        due("11: bound", Check.row(x, 4, 1, 6, 9), 0);
        due("11: left", Check.row(x, 0, 1, 6, 2, 9), 0);
        due("11: ended", Check.row(x, 64, 1, 6, 10, 10, 9), 0);
        due("11: it was in his store", Check.row(x, 1, 7, 4, 8, 9), 0);
        due("11: the second", Check.row(x, 1, 1, 1, 6, 9), 2);
    }

    private static void letterTicks() {
        TicketJudge x = Check.judge("life 3 early");
        Check.row(x, 0, 0, 10, 7, 10);
        due("11: ticks", x.ticket(0, 3), 2);
        due("11: ticks", x.ticket(1, 3), 1);
        due("11: lives", x.ticket(0, 0), 1);
        due("11: tick", x.letter(10), 1);
        due("11: ended", x.ticket(0, 0), 0);
        due("11: ticks", x.ticket(0, 3), 3);
        due("11: tick", x.letter(10), 1);
        due("11: ticks of one that ended", x.ticket(0, 3), 3);
        due("11: ended", x.ticket(1, 0), 0);
        Check.row(x, 64, 1, 10, 10);
        due("11: short", x.ticket(0, 0), 0);
        due("11: ticks", x.ticket(0, 3), 2);
        TicketJudge one = Check.judge("life 1");
        Check.row(one, 64, 1, 10);
        due("11: life less than short", one.ticket(0, 0), 0);
        due("11: ticks", one.ticket(0, 3), 1);
        TicketJudge nine = Check.judge("life 9");
        Check.row(nine, 0, 1, 10, 10, 10, 10, 10, 10, 10, 10);
        due("11: eight of nine", nine.ticket(0, 0), 1);
        nine.letter(10);
        due("11: nine", nine.ticket(0, 0), 0);
        TicketJudge never = Check.judge("early");
        Check.row(never, 0, 1, 10, 10, 10);
        due("11: never", never.ticket(0, 0), 1);
        due("11: no ticks then", never.ticket(0, 3), 0);
        due("11: done", never.row(0), 4);
        Check.row(never, 64, 1, 10, 10);
        due("11: short alone", never.ticket(0, 0), 0);
    }

    private static void letterWrong() {
        TicketJudge x = new TicketJudge();
        for (int n : new int[] {11, 12, -1, 15, Integer.MIN_VALUE, Integer.MAX_VALUE}) {
            due("11: letter(" + n + ")", x.letter(n), -1);
        }
        due("11: nothing happened", x.row(0), 0);
        x.letter(1);
        x.letter(4);
        due("11: refused ones don't count", x.row(0), 1);
    }

    private static void rulesTurnAndBind() {
        TicketJudge x = Check.judge("early keep links");
        Check.row(x, 1, 0, 1);
        due("I: turn gives a new one", x.row(1), 1);
        due("I: turn ends the old one", x.ticket(0, 0), 0);
        due("I: turn without a fifth", Check.row(x, 1, 1, 1, 1, 1, 1), 0);
        due("I: nothing happens", x.ticket(3, 0), 1);
        Check.row(x, 5, 7, 4, 1);
        due("I: turn ends one that is not bound to him", x.ticket(0, 0), 0);
        Check.row(x, 4, 7, 4, 1);
        due("I: bind keeps none of another", x.row(1), 1);
        due("I: it is as it was", x.ticket(0, 0), 1);
        Check.row(x, 4, 7, 4, 0);
        due("I: a visit looks at life alone", x.row(4), 1);
        Check.row(x, 0, 7, 4, 1);
        due("I: bound by login without bind, too", x.ticket(0, 2), 0);
        x.letter(8);
        due("I: the last login binds", x.ticket(0, 2), 1);
        due("I: and owns", x.ticket(0, 1), 2);
        due("I: swapped by it", x.letter(3), 4);
    }

    private static void newHouseAmidRow() {
        TicketJudge x = Check.judge("life 9 forms");
        Check.row(x, 8, 1, 10, 10, 10, 10);
        Check.house(x, "life 3 told");
        due("4: the row goes on", x.row(0), 5);
        due("4: it lives until a TICK", x.ticket(0, 0), 1);
        due("4: the new house's lines", x.letter(6), 1);
        x.letter(10);
        due("4: then it ends", x.ticket(0, 0), 0);
        due("4: with its TICKS", x.ticket(0, 3), 5);
        due("4: rules of the row", x.count(2), 8);
    }

    private static void row() {
        TicketJudge x = Check.judge("early links told keep");
        Check.row(x, 0, 0, 7, 5, 6, 4);
        int[] want = {4, 1, 1, 3, 2, 0};
        for (int what = 0; what < 6; what++) {
            due("12: row(" + what + ")", x.row(what), want[what]);
        }
        x.letter(1);
        x.letter(9);
        due("12: row(0)", x.row(0), 6);
        due("12: row(5)", x.row(5), 1);
        due("12: row(6)", x.row(6), -1);
        for (int n : WRONG_NUMBERS) {
            due("12: row(" + n + ")", x.row(n), -1);
        }
    }

    private static void ticket() {
        TicketJudge x = Check.judge("early life 5");
        Check.row(x, 0, 8, 10, 1, 10, 2, 0);
        int[][] want = {{1, 2, 1, 2}, {0, 1, 0, 1}, {1, 0, 0, 0}, {-1, -1, -1, -1}};
        for (int t = 0; t < 4; t++) {
            for (int what = 0; what < 4; what++) {
                due("13: ticket(" + t + ", " + what + ")", x.ticket(t, what), want[t][what]);
            }
            due("13: ticket(" + t + ", 4)", x.ticket(t, 4), -1);
        }
        due("13: ticket(4, 0)", x.ticket(4, 0), -1);
        for (int n : WRONG_NUMBERS) {
            due("13: ticket(" + n + ", 0)", x.ticket(n, 0), -1);
            due("13: ticket(0, " + n + ")", x.ticket(0, n), -1);
        }
    }

    private static void walk() {
        TicketJudge x = Check.judge("early links keep told forms stay");
        due("14: all kinds", x.walk(0, 10, 7), 2);
        due("14: SENT", x.walk(0, 10, 2), 2);
        due("14: RIDES", x.walk(0, 10, 1), 3);
        due("14: SWAPPED", x.walk(0, 10, 4), 3);
        due("14: too short", x.walk(0, 2, 4), 0);
        due("14: just long enough", x.walk(0, 3, 4), 3);
        due("14: no RIDES with bind", x.walk(4, 8, 1), 0);
        due("14: no SENT with once", x.walk(8, 8, 2), 0);
        due("14: RIDES by a link", x.walk(32, 8, 1), 4);
        for (int n : WRONG_NUMBERS) {
            due("14: rules " + n, x.walk(n, 5, 7), -1);
            due("14: length " + n, x.walk(0, n, 7), -1);
            due("14: kinds " + n, x.walk(0, 5, n), -1);
        }
        due("14: rules 128", x.walk(128, 5, 7), -1);
        due("14: length 0", x.walk(0, 0, 7), -1);
        due("14: length 11", x.walk(0, 11, 7), -1);
        due("14: kinds 0", x.walk(0, 5, 0), -1);
        due("14: kinds 8", x.walk(0, 5, 8), -1);
        due("14: the latest stays", x.walked(1), 1);
        due("14: the latest stays", x.least(3), 9);
        x.begin(64);
        x.letter(7);
        x.walk(0, 5, 7);
        due("14: the row is as it was", x.row(4), 1);
        due("14: its rules, too", x.count(2), 64);
    }

    private static void walkSpent() {
        TicketJudge x = Check.judge("early life 3");
        due("14: not spent", x.walk(0, 10, 7), 0);
        due("16: met", x.walked(0), 18357);
        due("14: spent", x.walk(1, 10, 7), -2);
        due("16: met", x.walked(0), 20000);
        due("16: kind", x.walked(1), 0);
        due("15: no row", x.least(0), -1);
        due("14: shorter", x.walk(1, 9, 7), 0);
        Model model = new Model();
        model.read("early life 3");
        due("16: met", x.walked(0), model.walk(1, 9, 7).met);
        due("14: spent again", x.walk(1, 10, 1), -2);
        due("14: and not", x.walk(0, 10, 1), 0);
        due("16: met", x.walked(0), 18357);
    }

    private static void least() {
        TicketJudge x = Check.judge("early links keep");
        due("15: ahead of any", x.least(0), -1);
        x.walk(0, 9, 1);
        int[] rides = {7, 4, 1, 9};
        for (int k = 0; k < 4; k++) {
            due("15: least(" + k + ")", x.least(k), rides[k]);
        }
        due("15: least(4)", x.least(4), -1);
        for (int n : WRONG_NUMBERS) {
            due("15: least(" + n + ")", x.least(n), -1);
        }
        x.mend(9, 7);
        x.walk(0, 9, 0);
        due("15: mend() and NONE leave it", x.least(3), 9);
        x.walk(0, 9, 4);
        int[] swapped = {8, 4, 3};
        for (int k = 0; k < 3; k++) {
            due("15: least(" + k + ")", x.least(k), swapped[k]);
        }
        due("15: least(3)", x.least(3), -1);
        x.walk(16, 6, 4);
        due("15: none", x.least(0), -1);
        TicketJudge first = Check.judge("told forms");
        first.walk(0, 5, 3);
        due("15: 1 5 is shorter than 1 6 9", first.least(1), 5);
        due("15: two", first.least(2), -1);
        TicketJudge early = Check.judge("early told keep");
        early.walk(0, 5, 1);
        int[] lines = {1, 6, 9};
        for (int k = 0; k < 3; k++) {
            due("15: least(" + k + ")", early.least(k), lines[k]);
        }
    }

    private static void walked() {
        TicketJudge x = Check.judge("forms");
        due("16: ahead of any", x.walked(0), -1);
        due("16: ahead of any", x.walked(1), -1);
        x.mend(3, 7);
        x.walk(0, 3, 0);
        due("16: mend() and NONE are none", x.walked(0), -1);
        x.walk(0, 1, 7);
        // All empty; the VISITOR's login; the STRANGER's.
        due("16: states to length 1", x.walked(0), 3);
        due("16: kind", x.walked(1), 0);
        x.walk(0, 5, 7);
        due("16: states of at most one letter less", x.walked(0), 3);
        due("16: SENT", x.walked(1), 2);
        due("16: walked(2)", x.walked(2), -1);
        for (int n : WRONG_NUMBERS) {
            due("16: walked(" + n + ")", x.walked(n), -1);
        }
        x.walk(0, 2, 1);
        // Behind 1: left, a second one, the stranger's; behind 8: the visitor's, a second one.
        due("16: flaws of other kinds are no states", x.walked(0), 8);
        TicketJudge y = Check.judge("early links keep told");
        y.walk(0, 9, 1);
        due("16: RIDES", y.walked(1), 1);
        y.walk(0, 9, 4);
        due("16: SWAPPED", y.walked(1), 3);
    }

    private static void mend() {
        TicketJudge x = Check.judge("early links keep told forms stay");
        due("17: SENT alone", x.mend(6, 2), 8);
        due("17: all kinds", x.mend(6, 7), 12);
        due("17: RIDES alone", x.mend(6, 1), 4);
        due("17: too short for a flaw", x.mend(1, 7), 0);
        x.cost(2, 3);
        due("17: two for two coins", x.mend(6, 5), 16 + 32);
        x.cost(2, 2);
        due("17: fewer of the same cost", x.mend(6, 5), 4);
        x.cost(4, 0);
        x.cost(5, 0);
        x.cost(2, 0);
        due("17: fewest of those for nothing", x.mend(6, 5), 4);
        x.cost(2, 99);
        due("17: for nothing", x.mend(6, 5), 48);
        for (int n : WRONG_NUMBERS) {
            due("17: length " + n, x.mend(n, 7), -1);
            due("17: kinds " + n, x.mend(5, n), -1);
        }
        due("17: length 0", x.mend(0, 7), -1);
        due("17: length 11", x.mend(11, 7), -1);
        due("17: kinds 0", x.mend(5, 0), -1);
        due("17: kinds 8", x.mend(5, 8), -1);
        TicketJudge least = Check.judge("links keep");
        due("17: the least number", least.mend(5, 4), 4);
        least.cost(2, 9);
        due("17: another", least.mend(5, 4), 16);
    }

    private static void mendTasksAndSpent() {
        TicketJudge turn = Check.judge("early links keep");
        due("17: turn does", turn.mend(5, 1), 1);
        turn.cost(0, 2);
        due("17: turn is dear", turn.mend(5, 1), 4);
        turn.cost(0, 1);
        turn.task(8, Check.packed(1, 1, 1, 1, 1, 1, 1, 3));
        due("17: a task that turn ends", turn.mend(5, 1), 4);
        turn.cost(2, 9);
        due("17: nolinks then", turn.mend(5, 1), 16);
        turn.drop();
        due("17: without it", turn.mend(5, 1), 1);
        turn.task(8, Check.packed(2, 1, 1, 1, 1, 1, 1, 3));
        due("17: a task that never goes", turn.mend(5, 1), 1);
        due("17: turn with more words", Check.judge("early links keep stay forms").mend(5, 1), 1);
        TicketJudge two = Check.judge("early links keep told");
        two.cost(2, 9);
        due("17: turn and silent", two.mend(5, 1), 33);
        TicketJudge spent = Check.judge("early links keep life 3");
        due("17: bind", spent.mend(8, 7), 4);
        due("17: spent with bind, so nolinks", spent.mend(10, 7), 16);
        TicketJudge none = Check.judge("early life 4");
        due("17: short, as all others are spent", none.mend(10, 7), 64);
        none.task(4, Check.packed(1, 10, 10, 3));
        due("17: none does", none.mend(10, 7), -2);
        due("17: a shorter walk is not spent", none.mend(8, 7), 0);
    }

    private static void count() {
        TicketJudge x = new TicketJudge();
        x.feed(0, 0, 0, 0, 0);
        x.end(7);
        x.task(1, 0);
        x.task(1, 0);
        x.begin(77);
        x.cost(0, 20);
        x.cost(6, 26);
        due("18: count(0)", x.count(0), 7);
        due("18: count(1)", x.count(1), 2);
        due("18: count(2)", x.count(2), 77);
        int[] costs = {20, 1, 1, 1, 1, 1, 26};
        for (int r = 0; r < 7; r++) {
            due("18: count(1" + r + ")", x.count(10 + r), costs[r]);
        }
        for (int n : new int[] {3, 4, 9, 17, 18}) {
            due("18: count(" + n + ")", x.count(n), -1);
        }
        for (int n : WRONG_NUMBERS) {
            due("18: count(" + n + ")", x.count(n), -1);
        }
    }
}
