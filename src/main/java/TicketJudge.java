import java.util.Arrays;

/** A judge of how a house keeps its visitors known; README.md tells how it is used. */
public final class TicketJudge {
    public static final int NONE = -1;

    private static final int TAPE_BYTES = 200;
    private static final int FED_BYTES = 20;
    private static final int RULE_COUNT = 7;
    private static final int RULE_SETS = 128;
    private static final int MOST_COINS = 99;
    private static final int MOST_TASKS = 6;
    private static final int TASK_LETTERS = 8;
    private static final int MOST_LENGTH = 10;
    private static final int ALL_KINDS = 7;
    private static final int NONE_DOES = -2;
    private static final int ABOVE_ALL_RANKS = 1000000000;

    private final int[] tape = new int[TAPE_BYTES];
    private int tapeSize = 0;
    private final House home = new House();
    private final Ways ways = new Ways();
    private final int[] costs = {1, 1, 1, 1, 1, 1, 1};
    private final long[] tasks = new long[MOST_TASKS];
    private final int[] taskSizes = new int[MOST_TASKS];
    private int taskCount = 0;
    private int rowRules = 0;
    private long rowState = State.EMPTY;
    private int rowDone = 0;
    private boolean rowEnded = false;
    // Made with the first walk: its arrays are large, and many objects never walk.
    private Search search = null;
    private final int[] leastRow = new int[MOST_LENGTH];
    private int leastLength = 0;
    private int leastKind = 0;
    private int statesMet = NONE;
    private final int[] ranks = new int[RULE_SETS];

    public TicketJudge() {
    }

    public int feed(int a, int b, int c, int d, int e) {
        if (tapeSize > TAPE_BYTES - FED_BYTES) {
            return NONE;
        }
        putFour(a);
        putFour(b);
        putFour(c);
        putFour(d);
        putFour(e);
        return tapeSize;
    }

    private void putFour(int number) {
        for (int shift = 24; shift >= 0 && tapeSize < TAPE_BYTES; shift -= 8) {
            tape[tapeSize] = (number >>> shift) & 255;
            tapeSize++;
        }
    }

    public int end(int n) {
        if (n < 0 || n > tapeSize) {
            return NONE;
        }
        tapeSize = n;
        return n;
    }

    public int house() {
        int fault = home.read(tape, tapeSize);
        tapeSize = 0;
        return fault == NONE ? home.wordCount() : -2 - fault;
    }

    public int has(int word) {
        if (word < 0 || word > House.LIFE) {
            return NONE;
        }
        if (word == House.LIFE) {
            return home.lifeTicks();
        }
        return home.tells(word) ? 1 : 0;
    }

    public int cost(int rule, int coins) {
        if (rule < 0 || rule >= RULE_COUNT || coins < 0 || coins > MOST_COINS) {
            return NONE;
        }
        int before = costs[rule];
        costs[rule] = coins;
        return before;
    }

    public int task(int n, long letters) {
        if (n < 1 || n > TASK_LETTERS || taskCount >= MOST_TASKS) {
            return NONE;
        }
        for (int k = 0; k < n; k++) {
            int l = taskLetter(letters, k);
            if (l > 3 && l != 10) {
                return NONE;
            }
        }
        tasks[taskCount] = letters;
        taskSizes[taskCount] = n;
        taskCount++;
        return taskCount - 1;
    }

    private static int taskLetter(long letters, int k) {
        return (int) (letters >>> (4 * k)) & 15;
    }

    public int goes(int task, int rules) {
        if (task < 0 || task >= taskCount || !isRuleSet(rules)) {
            return NONE;
        }
        return taskGoes(task, rules) ? 1 : 0;
    }

    private boolean taskGoes(int number, int rules) {
        if (number < 0 || number >= taskCount) {
            return false;
        }
        ways.learn(home, rules);
        long s = State.EMPTY;
        for (int k = 0; k < taskSizes[number]; k++) {
            s = ways.after(s, taskLetter(tasks[number], k));
            if (s == Ways.REFUSED) {
                return false;
            }
        }
        return true;
    }

    public int drop() {
        int before = taskCount;
        taskCount = 0;
        return before;
    }

    public boolean begin(int rules) {
        if (!isRuleSet(rules)) {
            return false;
        }
        rowRules = rules;
        rowState = State.EMPTY;
        rowDone = 0;
        rowEnded = false;
        return true;
    }

    public int letter(int l) {
        if (l < 0 || l > 10 || rowEnded) {
            return NONE;
        }
        // The HOUSE may be another one since the row's last LETTER.
        ways.learn(home, rowRules);
        long next = ways.after(rowState, l);
        if (next == Ways.REFUSED) {
            return 0;
        }
        int flaw = ways.flawOf(rowState, l);
        rowState = next;
        rowDone++;
        rowEnded = flaw != 0;
        return 1 + flaw;
    }

    public int row(int what) {
        switch (what) {
            case 0:
                return rowDone;
            case 1:
                return State.store(rowState, State.VISITOR);
            case 2:
                return State.store(rowState, State.STRANGER);
            case 3:
                return State.known(rowState);
            case 4:
                return State.given(rowState);
            case 5:
                return rowEnded ? 1 : 0;
            default:
                return NONE;
        }
    }

    public int ticket(int t, int what) {
        if (t < 0 || t >= State.given(rowState)) {
            return NONE;
        }
        switch (what) {
            case 0:
                return State.lives(rowState, t) ? 1 : 0;
            case 1:
                return State.owner(rowState, t);
            case 2:
                return State.bound(rowState, t);
            case 3:
                return State.ticks(rowState, t);
            default:
                return NONE;
        }
    }

    public int walk(int rules, int length, int kinds) {
        if (!isRuleSet(rules) || !canWalk(length, kinds)) {
            return NONE;
        }
        Search searcher = searcher();
        ways.learn(home, rules);
        int answer = searcher.run(ways, length, kinds);
        statesMet = searcher.statesMet();
        leastKind = searcher.flawKind();
        leastLength = Math.max(answer, 0);
        searcher.copyRow(leastRow, leastLength);
        return answer;
    }

    private Search searcher() {
        if (search == null) {
            search = new Search();
        }
        return search;
    }

    private static boolean isRuleSet(int rules) {
        return rules >= 0 && rules < RULE_SETS;
    }

    private static boolean canWalk(int length, int kinds) {
        return length >= 1 && length <= MOST_LENGTH && kinds >= 1 && kinds <= ALL_KINDS;
    }

    public int least(int k) {
        return k >= 0 && k < leastLength && k < MOST_LENGTH ? leastRow[k] : NONE;
    }

    public int walked(int what) {
        if (statesMet == NONE) {
            return NONE;
        }
        switch (what) {
            case 0:
                return statesMet;
            case 1:
                return leastKind;
            default:
                return NONE;
        }
    }

    public int mend(int length, int kinds) {
        if (!canWalk(length, kinds)) {
            return NONE;
        }
        Search searcher = searcher();
        int needed = tasksThatGo(0);
        int idle = home.idleRules();
        rankRuleSets();
        int rank = NONE;
        for (int tried = 0; tried < RULE_SETS; tried++) {
            rank = nextRank(rank);
            int set = rank % RULE_SETS;
            // Without its idle RULES a set does the same with fewer, so it stands ahead.
            if ((set & idle) != 0 || (tasksThatGo(set) & needed) != needed) {
                continue;
            }
            ways.learn(home, set);
            if (searcher.run(ways, length, kinds) == 0) {
                return set;
            }
        }
        return NONE_DOES;
    }

    private int tasksThatGo(int rules) {
        int going = 0;
        for (int number = 0; number < taskCount; number++) {
            if (taskGoes(number, rules)) {
                going |= 1 << number;
            }
        }
        return going;
    }

    /** A lower rank is a better set: by COST, then by how many RULES, then by number. */
    private void rankRuleSets() {
        for (int set = 0; set < RULE_SETS; set++) {
            int coins = 0;
            for (int rule = 0; rule < RULE_COUNT; rule++) {
                coins += ((set >> rule) & 1) * costs[rule];
            }
            ranks[set] = (coins * 8 + Integer.bitCount(set)) * RULE_SETS + set;
        }
    }

    private int nextRank(int rank) {
        int next = ABOVE_ALL_RANKS;
        for (int set = 0; set < RULE_SETS; set++) {
            if (ranks[set] > rank && ranks[set] < next) {
                next = ranks[set];
            }
        }
        return next;
    }

    public int count(int what) {
        if (what >= 10 && what < 10 + RULE_COUNT) {
            return costs[what - 10];
        }
        switch (what) {
            case 0:
                return tapeSize;
            case 1:
                return taskCount;
            case 2:
                return rowRules;
            default:
                return NONE;
        }
    }

    /** The WORDS of a HOUSE, and how its text is read. */
    private static final class House {
        static final int EARLY = 0;
        static final int LINKS = 1;
        static final int KEEP = 2;
        static final int STAY = 3;
        static final int TOLD = 4;
        static final int FORMS = 5;
        static final int LIFE = 6;

        private static final int BLANK = 32;
        private static final int CANT_STAND = 0;
        private static final int BAD_NUMBER = 1;
        private static final int TWICE = 2;

        private int words = 0;
        private int life = 0;
        private int readWords = 0;
        private int readLife = 0;
        private int at = 0;
        private int fault = NONE;

        boolean tells(int word) {
            return ((words >> word) & 1) != 0;
        }

        int lifeTicks() {
            return life;
        }

        int wordCount() {
            return Integer.bitCount(words);
        }

        /** RULES that change nothing here, as what they forbid does not happen anyway. */
        int idleRules() {
            int idle = 0;
            idle |= tells(STAY) ? 0 : 1 << Ways.END;
            idle |= tells(FORMS) ? 0 : 1 << Ways.ONCE;
            idle |= tells(LINKS) ? 0 : 1 << Ways.NOLINKS;
            idle |= tells(TOLD) ? 0 : 1 << Ways.SILENT;
            idle |= life == 0 || life > Ways.SHORT_TICKS ? 0 : 1 << Ways.SHORT;
            return idle;
        }

        /** The FAULT; NONE if there is none, and the text is the HOUSE from now on. */
        int read(int[] text, int size) {
            readWords = 0;
            readLife = 0;
            at = 0;
            fault = NONE;
            int length = Math.min(size, text.length);
            for (int round = 0; round < length && at < length && fault == NONE; round++) {
                if (text[at] == BLANK) {
                    at++;
                } else {
                    readWord(text, length);
                }
            }
            if (fault == NONE) {
                words = readWords;
                life = readLife;
            }
            return fault;
        }

        private void readWord(int[] text, int length) {
            int start = at;
            while (at < length && text[at] >= 'a' && text[at] <= 'z') {
                at++;
            }
            int word = wordBetween(text, start, at);
            if (word == NONE) {
                setFault(start, CANT_STAND);
            } else if (((readWords >> word) & 1) != 0) {
                setFault(start, TWICE);
            } else {
                readWords |= 1 << word;
                if (word == LIFE) {
                    readNumber(text, length);
                }
            }
        }

        private void readNumber(int[] text, int length) {
            while (at < length && text[at] == BLANK) {
                at++;
            }
            int start = at;
            while (at < length && text[at] >= '0' && text[at] <= '9') {
                // Capped, as the digits may go on to the text's end.
                readLife = Math.min(readLife * 10 + text[at] - '0', 100);
                at++;
            }
            if (at == start) {
                setFault(start, CANT_STAND);
            } else if (at - start > 2 || readLife < 1 || readLife > 9) {
                setFault(start, BAD_NUMBER);
            } else if (at < length && text[at] != BLANK) {
                // Between WORDS there are blanks, behind a NUMBER too.
                setFault(at, CANT_STAND);
            }
        }

        private void setFault(int place, int kind) {
            fault = 1 + 4 * place + kind;
        }

        private static int wordBetween(int[] text, int from, int to) {
            for (int word = EARLY; word <= LIFE; word++) {
                if (isWord(text, from, to, nameOf(word))) {
                    return word;
                }
            }
            return NONE;
        }

        private static boolean isWord(int[] text, int from, int to, String name) {
            if (from < 0 || to > text.length || to - from != name.length()) {
                return false;
            }
            for (int k = 0; k < name.length(); k++) {
                if (text[from + k] != name.charAt(k)) {
                    return false;
                }
            }
            return true;
        }

        private static String nameOf(int word) {
            switch (word) {
                case EARLY:
                    return "early";
                case LINKS:
                    return "links";
                case KEEP:
                    return "keep";
                case STAY:
                    return "stay";
                case TOLD:
                    return "told";
                case FORMS:
                    return "forms";
                default:
                    return "life";
            }
        }
    }

    /**
     * All that is told of TICKETS, STORES and what the STRANGER KNOWS, in one long, so that
     * unlike states are unlike numbers. From the lowest bit: eight bits a TICKET (lives 1,
     * whose 2, BOUND 1, TICKS 4), how many are given 3, each STORE 3 (one more than its
     * TICKET, 0 for none), the TICKETS that he KNOWS 4. It is never below 0.
     */
    private static final class State {
        static final long EMPTY = 0L;
        static final int TICKETS = 4;
        static final int VISITOR = 0;
        static final int STRANGER = 1;
        static final int OF_NOBODY = 0;
        static final int OF_VISITOR = 1;
        static final int OF_STRANGER = 2;

        private static final int OWNER = 1;
        private static final int BOUND = 3;
        private static final int TICKS = 4;
        private static final int GIVEN = 32;
        private static final int STORES = 35;
        private static final int KNOWN = 41;

        static boolean lives(long s, int t) {
            return ((s >>> (8 * t)) & 1) != 0;
        }

        static int owner(long s, int t) {
            return (int) (s >>> (8 * t + OWNER)) & 3;
        }

        static int bound(long s, int t) {
            return (int) (s >>> (8 * t + BOUND)) & 1;
        }

        static int ticks(long s, int t) {
            return (int) (s >>> (8 * t + TICKS)) & 15;
        }

        static int given(long s) {
            return (int) (s >>> GIVEN) & 7;
        }

        /** The TICKET in a BROWSER's STORE; NONE. */
        static int store(long s, int browser) {
            return ((int) (s >>> (STORES + 3 * browser)) & 7) - 1;
        }

        static int known(long s) {
            return (int) (s >>> KNOWN) & 15;
        }

        static boolean knows(long s, int t) {
            return ((s >>> (KNOWN + t)) & 1) != 0;
        }

        static long ended(long s, int t) {
            return s & ~(1L << (8 * t));
        }

        /** A TICKET is of a BROWSER's own person, and BOUND to that BROWSER. */
        static long owned(long s, int t, int browser) {
            long cleared = s & ~(7L << (8 * t + OWNER));
            return cleared | ((long) (browser + 1) << (8 * t + OWNER)) | ((long) browser << (8 * t + BOUND));
        }

        static long ticked(long s, int t) {
            return s + (1L << (8 * t + TICKS));
        }

        static long stored(long s, int browser, int t) {
            long cleared = s & ~(7L << (STORES + 3 * browser));
            return cleared | ((long) (t + 1) << (STORES + 3 * browser));
        }

        static long learnt(long s, int t) {
            return s | (1L << (KNOWN + t));
        }

        /** TICKET t, the next one, is given: it lives, of nobody, BOUND to a BROWSER. */
        static long minted(long s, int t, int browser) {
            long fresh = 1L | ((long) browser << BOUND);
            return (s | (fresh << (8 * t))) + (1L << GIVEN);
        }
    }

    /** What a HOUSE does with a set of RULES: what each LETTER makes of a state. */
    private static final class Ways {
        static final long REFUSED = -1L;
        static final int TURN = 0;
        static final int END = 1;
        static final int BIND = 2;
        static final int ONCE = 3;
        static final int NOLINKS = 4;
        static final int SILENT = 5;
        static final int SHORT = 6;
        static final int SHORT_TICKS = 2;

        private static final int RIDES = 1;
        private static final int SENT = 2;
        private static final int SWAPPED = 3;

        private boolean early = false;
        private boolean links = false;
        private boolean keep = false;
        private boolean stay = false;
        private boolean told = false;
        private boolean forms = false;
        private boolean turn = false;
        private boolean bind = false;
        // TICKS with which a TICKET ends; 0: it never ends by TICKS.
        private int limit = 0;

        void learn(House home, int rules) {
            early = home.tells(House.EARLY);
            links = home.tells(House.LINKS) && !holds(rules, NOLINKS);
            keep = home.tells(House.KEEP);
            stay = home.tells(House.STAY) && !holds(rules, END);
            told = home.tells(House.TOLD) && !holds(rules, SILENT);
            forms = home.tells(House.FORMS) && !holds(rules, ONCE);
            turn = holds(rules, TURN);
            bind = holds(rules, BIND);
            limit = home.lifeTicks();
            if (holds(rules, SHORT) && (limit == 0 || limit > SHORT_TICKS)) {
                limit = SHORT_TICKS;
            }
        }

        private static boolean holds(int rules, int rule) {
            return ((rules >> rule) & 1) != 0;
        }

        /** The state behind a LETTER; REFUSED. */
        long after(long s, int l) {
            switch (l) {
                case 0:
                    return visited(s, State.VISITOR);
                case 1:
                    return loggedIn(s, State.VISITOR);
                case 2:
                    return left(s);
                case 3:
                    return canAct(s) ? s : REFUSED;
                case 4:
                    return followed(s);
                case 5:
                    return canBeSent(s) ? s : REFUSED;
                case 6:
                    return shown(s);
                case 7:
                    return visited(s, State.STRANGER);
                case 8:
                    return loggedIn(s, State.STRANGER);
                case 9:
                    return canRide(s) ? s : REFUSED;
                case 10:
                    return ticked(s);
                default:
                    return REFUSED;
            }
        }

        /** The kind of FLAW that a LETTER would be in a state; 0: none, or it is REFUSED. */
        int flawOf(long s, int l) {
            switch (l) {
                case 3:
                    return canAct(s) && visitorHolds(s, State.OF_STRANGER) ? SWAPPED : 0;
                case 5:
                    return canBeSent(s) ? SENT : 0;
                case 9:
                    return canRide(s) ? RIDES : 0;
                default:
                    return 0;
            }
        }

        private boolean good(long s, int t, int browser) {
            return t != NONE && State.lives(s, t) && (!bind || State.bound(s, t) == browser);
        }

        private static boolean visitorHolds(long s, int owner) {
            int t = State.store(s, State.VISITOR);
            return t != NONE && State.owner(s, t) == owner;
        }

        private long visited(long s, int browser) {
            int t = State.store(s, browser);
            if (!early || (t != NONE && State.lives(s, t))) {
                return s;
            }
            return given(s, browser);
        }

        private long given(long s, int browser) {
            int t = State.given(s);
            if (t >= State.TICKETS) {
                return REFUSED;
            }
            long next = State.stored(State.minted(s, t, browser), browser, t);
            return browser == State.STRANGER ? State.learnt(next, t) : next;
        }

        private long loggedIn(long s, int browser) {
            int before = State.store(s, browser);
            if (keep && !turn && good(s, before, browser)) {
                return State.owned(s, before, browser);
            }
            long next = given(s, browser);
            if (next == REFUSED) {
                return REFUSED;
            }
            next = State.owned(next, State.store(next, browser), browser);
            return turn && before != NONE ? State.ended(next, before) : next;
        }

        private long left(long s) {
            int t = State.store(s, State.VISITOR);
            if (t == NONE || !State.lives(s, t) || State.owner(s, t) == State.OF_NOBODY) {
                return REFUSED;
            }
            long next = stay ? s : State.ended(s, t);
            return State.stored(next, State.VISITOR, NONE);
        }

        private boolean canAct(long s) {
            return good(s, State.store(s, State.VISITOR), State.VISITOR) && !visitorHolds(s, State.OF_NOBODY);
        }

        private long followed(long s) {
            int t = State.store(s, State.STRANGER);
            return links && t != NONE ? State.stored(s, State.VISITOR, t) : REFUSED;
        }

        private boolean canBeSent(long s) {
            return forms && good(s, State.store(s, State.VISITOR), State.VISITOR)
                && visitorHolds(s, State.OF_VISITOR);
        }

        private long shown(long s) {
            int t = State.store(s, State.VISITOR);
            return told && t != NONE ? State.learnt(s, t) : REFUSED;
        }

        private boolean canRide(long s) {
            for (int t = 0; t < State.TICKETS; t++) {
                if (State.knows(s, t) && State.owner(s, t) == State.OF_VISITOR && good(s, t, State.STRANGER)) {
                    return true;
                }
            }
            return false;
        }

        private long ticked(long s) {
            if (limit == 0) {
                return s;
            }
            long next = s;
            for (int t = 0; t < State.TICKETS; t++) {
                if (State.lives(next, t)) {
                    next = State.ticked(next, t);
                    // Not only ==: the row may have come here with a longer life.
                    next = State.ticks(next, t) >= limit ? State.ended(next, t) : next;
                }
            }
            return next;
        }
    }

    /**
     * THE WALK, a LENGTH after the other. Each state is kept where it is met first, and all
     * are met in the order of their least rows, so the first FLAW found ends the LEAST ROW.
     */
    private static final class Search {
        private static final int MOST_STATES = 20000;
        private static final int SLOTS = 32768;
        private static final int SLOT_SHIFT = 49;
        private static final long SPREAD = 0x9E3779B97F4A7C15L;
        private static final int LAST_BASE = 2000000000;
        private static final int SPENT = -2;

        // The LETTERS that can change a state; the others (3, 5, 9) lead to where they began.
        private static final int[] MOVES = {0, 1, 2, 4, 6, 7, 8, 10};
        private static final int[] FLAW_LETTERS = {3, 5, 9};

        private final long[] states = new long[MOST_STATES];
        // Where a state was met from: 16 * that state's place, and the LETTER.
        private final int[] origins = new int[MOST_STATES];
        // base + place of a state; what earlier walks left is below base, and counts as free.
        private final int[] slots = new int[SLOTS];
        private int base = 1;
        private int met = 0;
        private boolean spent = false;
        private int flawKind = 0;
        private int flawLetter = 0;
        private int flawPlace = 0;

        int statesMet() {
            return met;
        }

        int flawKind() {
            return flawKind;
        }

        /** The LENGTH of the LEAST ROW; 0: there is none; SPENT. */
        int run(Ways ways, int length, int kinds) {
            forget();
            meet(State.EMPTY, 0);
            int first = 0;
            for (int done = 0; done < length; done++) {
                int behind = met;
                findFlaw(ways, first, behind, kinds);
                if (flawKind != 0) {
                    return done + 1;
                }
                goOn(ways, first, behind);
                if (spent) {
                    return SPENT;
                }
                first = behind;
            }
            return 0;
        }

        private void forget() {
            base += met;
            if (base > LAST_BASE) {
                Arrays.fill(slots, 0);
                base = 1;
            }
            met = 0;
            spent = false;
            flawKind = 0;
        }

        private void findFlaw(Ways ways, int first, int behind, int kinds) {
            for (int place = first; place < behind && place < MOST_STATES; place++) {
                for (int l : FLAW_LETTERS) {
                    int kind = ways.flawOf(states[place], l);
                    if (kind != 0 && ((kinds >> (kind - 1)) & 1) != 0) {
                        flawKind = kind;
                        flawLetter = l;
                        flawPlace = place;
                        return;
                    }
                }
            }
        }

        private void goOn(Ways ways, int first, int behind) {
            for (int place = first; place < behind && place < MOST_STATES && !spent; place++) {
                long s = states[place];
                for (int l : MOVES) {
                    long next = ways.after(s, l);
                    if (next != Ways.REFUSED && next != s) {
                        meet(next, 16 * place + l);
                    }
                }
            }
        }

        private void meet(long s, int origin) {
            int slot = (int) ((s * SPREAD) >>> SLOT_SHIFT);
            for (int tried = 0; tried < SLOTS; tried++) {
                int place = slots[slot] - base;
                if (place < 0 || place >= met) {
                    keep(s, origin, slot);
                    return;
                }
                if (states[place] == s) {
                    return;
                }
                slot = (slot + 1) & (SLOTS - 1);
            }
        }

        private void keep(long s, int origin, int slot) {
            if (met >= MOST_STATES) {
                spent = true;
                return;
            }
            states[met] = s;
            origins[met] = origin;
            slots[slot] = base + met;
            met++;
        }

        /** The LETTERS of the LEAST ROW, of which the length is given. */
        void copyRow(int[] into, int length) {
            if (length < 1 || length > into.length) {
                return;
            }
            into[length - 1] = flawLetter;
            int place = flawPlace;
            for (int k = length - 2; k >= 0 && place >= 0 && place < met; k--) {
                into[k] = origins[place] & 15;
                place = origins[place] >> 4;
            }
        }
    }
}
