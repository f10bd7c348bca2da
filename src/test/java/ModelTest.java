import java.util.Random;

/** Runs of calls by chance (always the same ones), each answer against Model's. */
public final class ModelTest {
    private static final String[] PIECES = {
        "early", "links", "keep", "stay", "told", "forms", "life 3", "life 1", "life 9", "life2", "life  07",
    };
    private static final String[] BROKEN = {
        "life", "life 0", "life 10", "life 123", "life x", "life 3forms", "earl", "earlyy", "early 5", "7",
        "Early", "stay!", "\u00e9", "\0", "life 00", "life 3 4", "life life", "keep links", "told\t", "x",
    };
    // What an object answers behind its 512th call is free, so none is asked as often.
    private static final int TEXTS_OF_ONE = 25;
    private static final int CALLS_OF_ONE = 350;
    private static final Check CHECK = new Check();

    private final Random chance;
    private final TicketJudge x = new TicketJudge();
    private final Model model = new Model();
    private final StringBuilder tape = new StringBuilder();
    private final StringBuilder story = new StringBuilder();
    private Model.Scene scene = new Model.Scene();
    private int rules = 0;
    private int done = 0;
    private boolean ended = false;
    private Model.Outcome latest = null;
    private int calls = 0;

    private ModelTest(long seed) {
        chance = new Random(seed);
    }

    public static void main(String[] args) {
        texts();
        everyRow();
        for (int run = 0; run < 2500 && CHECK.wrong() < 40; run++) {
            new ModelTest(run).play(run);
        }
        CHECK.finish();
    }

    private static String text(Random chance, boolean whole) {
        StringBuilder b = new StringBuilder();
        int n = chance.nextInt(8);
        for (int k = 0; k < n; k++) {
            boolean bad = !whole && chance.nextInt(8) == 0;
            b.append(bad ? BROKEN[chance.nextInt(BROKEN.length)] : PIECES[chance.nextInt(PIECES.length)]);
            b.append(chance.nextInt(6) == 0 ? "  " : " ");
        }
        if (b.length() > 0 && chance.nextBoolean()) {
            b.setLength(b.length() - 1);
        }
        if (!whole && b.length() > 0 && chance.nextInt(5) == 0) {
            int at = chance.nextInt(b.length());
            if (chance.nextBoolean()) {
                b.deleteCharAt(at);
            } else {
                b.setCharAt(at, (char) chance.nextInt(256));
            }
        }
        return b.toString();
    }

    private static void texts() {
        Random chance = new Random(7);
        TicketJudge x = new TicketJudge();
        Model model = new Model();
        for (int k = 0; k < 20000; k++) {
            if (k % TEXTS_OF_ONE == 0) {
                x = new TicketJudge();
                model = new Model();
            }
            String text = text(chance, false);
            CHECK.due("house() of '" + text + "'", Check.house(x, text), model.read(text));
            for (int w = 0; w < 7; w++) {
                int want = model.words.getOrDefault(Model.WORDS.get(w), 0);
                CHECK.due("has(" + w + ") behind '" + text + "'", x.has(w), want);
            }
        }
    }

    /** All HOUSES' WORDS: short walks against every single row, gone through one by one. */
    private static void everyRow() {
        Random chance = new Random(11);
        for (int set = 0; set < 64; set++) {
            StringBuilder text = new StringBuilder();
            for (int w = 0; w < 6; w++) {
                text.append((set >> w & 1) == 1 ? Model.WORDS.get(w) + " " : "");
            }
            text.append(chance.nextBoolean() ? "life " + (1 + chance.nextInt(4)) : "");
            Model model = new Model();
            model.read(text.toString());
            TicketJudge x = Check.judge(text.toString());
            for (int k = 0; k < 6; k++) {
                int rules = k == 0 ? 0 : chance.nextInt(128) & chance.nextInt(128);
                int length = 1 + chance.nextInt(4);
                int kinds = 1 + chance.nextInt(7);
                String call = "'" + text + "' walk(" + rules + ", " + length + ", " + kinds + ")";
                sameWalk(call, x, x.walk(rules, length, kinds), model.everyRow(rules, length, kinds));
            }
        }
    }

    private static void sameWalk(String call, TicketJudge x, int answer, Model.Outcome want) {
        CHECK.due(call, answer, want.answer);
        sameLatest(call, x, want);
    }

    private static void sameLatest(String call, TicketJudge x, Model.Outcome want) {
        CHECK.due(call + " walked(0)", x.walked(0), want.met);
        CHECK.due(call + " walked(1)", x.walked(1), want.kind);
        for (int k = -1; k <= 10; k++) {
            int letter = k >= 0 && k < want.row.length ? want.row[k] : -1;
            CHECK.due(call + " least(" + k + ")", x.least(k), letter);
        }
    }

    private int some(int from, int to) {
        return from + chance.nextInt(to - from + 1);
    }

    private void due(String call, long got, long want) {
        calls++;
        story.append(call).append(' ');
        CHECK.due(story.length() > 3000 ? ".." + story.substring(story.length() - 3000) : story.toString(), got, want);
    }

    private void play(int run) {
        story.append("run ").append(run).append(": ");
        walked();
        for (int round = 0; round < 120 && calls < CALLS_OF_ONE; round++) {
            int what = chance.nextInt(40);
            if (what < 2) {
                house();
            } else if (what < 4) {
                tape();
            } else if (what < 5) {
                begin();
            } else if (what < 7) {
                task();
            } else if (what < 8) {
                cost();
            } else if (what < 9 && chance.nextInt(3) == 0) {
                walk();
            } else if (what < 10 && chance.nextInt(25) == 0) {
                mend();
            } else {
                letter();
            }
            if (chance.nextInt(16) == 0) {
                looks();
            }
        }
        looks();
        walked();
    }

    private void house() {
        String text = text(chance, chance.nextInt(3) != 0);
        if (text.length() > 200 - tape.length()) {
            return;
        }
        due("end(0)", x.end(0), 0);
        calls += 11;
        tape.setLength(0);
        Check.put(x, text);
        story.append("put '").append(text).append("' ");
        due("house()", x.house(), model.read(text));
    }

    private void tape() {
        if (chance.nextBoolean()) {
            int[] n = {chance.nextInt(), chance.nextInt(), chance.nextInt(), chance.nextInt(), chance.nextInt()};
            boolean fits = tape.length() + 20 <= 200;
            for (int k = 0; k < 20 && fits; k++) {
                tape.append((char) (n[k / 4] >>> 8 * (3 - k % 4) & 255));
            }
            due("feed()", x.feed(n[0], n[1], n[2], n[3], n[4]), fits ? tape.length() : -1);
        } else if (chance.nextInt(4) == 0) {
            due("house()", x.house(), model.read(tape.toString()));
            tape.setLength(0);
        } else {
            int n = some(-1, tape.length() + 1);
            boolean fits = n >= 0 && n <= tape.length();
            if (fits) {
                tape.setLength(n);
            }
            due("end(" + n + ")", x.end(n), fits ? n : -1);
        }
    }

    private void begin() {
        int set = chance.nextInt(6) == 0 ? some(-3, 200) : some(0, 127) & some(0, 127);
        boolean fits = set >= 0 && set <= 127;
        if (fits) {
            scene = new Model.Scene();
            rules = set;
            done = 0;
            ended = false;
        }
        due("begin(" + set + ")", x.begin(set) ? 1 : 0, fits ? 1 : 0);
    }

    private void task() {
        if (chance.nextInt(9) == 0) {
            due("drop()", x.drop(), model.tasks.size());
            model.tasks.clear();
            return;
        }
        int n = some(0, 9);
        int[] letters = new int[n];
        boolean fits = n >= 1 && n <= 8 && model.tasks.size() < 6;
        for (int k = 0; k < n; k++) {
            letters[k] = chance.nextInt(40) == 0 ? some(0, 15) : new int[] {0, 1, 2, 3, 10, 1, 3}[chance.nextInt(7)];
            fits &= letters[k] <= 3 || letters[k] == 10;
        }
        long packed = Check.packed(letters) | (chance.nextInt(3) == 0 && n <= 8 ? chance.nextLong() << 4 * n : 0);
        if (fits) {
            model.tasks.add(letters);
        }
        due("task(" + n + ", " + packed + ")", x.task(n, packed), fits ? model.tasks.size() - 1 : -1);
        int which = some(-1, 6);
        int set = some(-1, 128);
        boolean known = which >= 0 && which < model.tasks.size() && set >= 0 && set < 128;
        int goes = known ? model.goes(model.tasks.get(which), set) ? 1 : 0 : -1;
        due("goes(" + which + ", " + set + ")", x.goes(which, set), goes);
    }

    private void cost() {
        int rule = some(-1, 7);
        int coins = chance.nextInt(3) == 0 ? some(-1, 3) : some(-1, 100);
        boolean fits = rule >= 0 && rule < 7 && coins >= 0 && coins < 100;
        int before = fits ? model.costs[rule] : -1;
        if (fits) {
            model.costs[rule] = coins;
        }
        due("cost(" + rule + ", " + coins + ")", x.cost(rule, coins), before);
    }

    private void letter() {
        int l = chance.nextInt(30) == 0 ? some(-2, 13) : some(0, 10);
        int want = -1;
        if (l >= 0 && l <= 10 && !ended) {
            want = model.act(scene, rules, l);
            done += want > 0 ? 1 : 0;
            ended = want > 1;
        }
        due("letter(" + l + ")", x.letter(l), want);
    }

    private void walk() {
        int set = chance.nextInt(12) == 0 ? some(-2, 130) : some(0, 127) & some(0, 127);
        int length = chance.nextInt(12) == 0 ? some(-1, 12) : chance.nextInt(5) == 0 ? some(1, 10) : some(1, 6);
        int kinds = chance.nextInt(12) == 0 ? some(-1, 9) : some(1, 7);
        boolean fits = set >= 0 && set < 128 && length >= 1 && length <= 10 && kinds >= 1 && kinds <= 7;
        if (fits) {
            latest = model.walk(set, length, kinds);
        }
        due("walk(" + set + ", " + length + ", " + kinds + ")", x.walk(set, length, kinds), fits ? latest.answer : -1);
        walked();
    }

    private void walked() {
        if (latest != null) {
            calls += 14;
            sameLatest(story.toString(), x, latest);
        } else {
            due("walked(0)", x.walked(0), -1);
            due("walked(1)", x.walked(1), -1);
            due("least(0)", x.least(0), -1);
        }
        due("walked(2)", x.walked(2), -1);
        due("walked(-1)", x.walked(-1), -1);
    }

    private void mend() {
        // Lengths above 5 take the model too long.
        int length = chance.nextInt(9) == 0 ? new int[] {-1, 0, 11, 12}[some(0, 3)] : some(1, 5);
        int kinds = chance.nextInt(9) == 0 ? some(-1, 9) : some(1, 7);
        boolean fits = length >= 1 && length <= 10 && kinds >= 1 && kinds <= 7;
        due("mend(" + length + ", " + kinds + ")", x.mend(length, kinds), fits ? model.mend(length, kinds) : -1);
        walked();
    }

    private void looks() {
        int[] row = {done, scene.store[0], scene.store[1], scene.known, scene.tickets.size(), ended ? 1 : 0};
        for (int what = -1; what <= 6; what++) {
            due("row(" + what + ")", x.row(what), what < 0 || what > 5 ? -1 : row[what]);
        }
        for (int t = -1; t <= 4; t++) {
            for (int what = -1; what <= 4; what++) {
                due("ticket(" + t + ", " + what + ")", x.ticket(t, what), ticketOf(t, what));
            }
        }
        due("count(0)", x.count(0), tape.length());
        due("count(1)", x.count(1), model.tasks.size());
        due("count(2)", x.count(2), rules);
        for (int what = 8; what <= 18; what++) {
            due("count(" + what + ")", x.count(what), what < 10 || what > 16 ? -1 : model.costs[what - 10]);
        }
    }

    private int ticketOf(int t, int what) {
        if (t < 0 || t >= scene.tickets.size() || what < 0 || what > 3) {
            return -1;
        }
        Model.Ticket ticket = scene.tickets.get(t);
        return new int[] {ticket.lives ? 1 : 0, ticket.owner, ticket.bound, ticket.ticks}[what];
    }
}
