import java.util.ArrayList;
import java.util.Arrays;
import java.util.HashSet;
import java.util.LinkedHashMap;
import java.util.List;
import java.util.Map;
import java.util.Set;
import java.util.regex.Matcher;
import java.util.regex.Pattern;

/**
 * The document again, written another way than the class: TICKETS as objects, the text read
 * by patterns, states as texts, all sets of RULES compared.
 */
final class Model {
    static final int NONE = -1;
    static final List<String> WORDS = List.of("early", "links", "keep", "stay", "told", "forms", "life");

    static final class Ticket {
        boolean lives = true;
        int owner = 0;
        int bound;
        int ticks = 0;

        Ticket(int bound) {
            this.bound = bound;
        }

        Ticket copy() {
            Ticket t = new Ticket(bound);
            t.lives = lives;
            t.owner = owner;
            t.ticks = ticks;
            return t;
        }
    }

    static final class Scene {
        final List<Ticket> tickets = new ArrayList<>();
        final int[] store = {NONE, NONE};
        int known = 0;

        Scene copy() {
            Scene s = new Scene();
            for (Ticket t : tickets) {
                s.tickets.add(t.copy());
            }
            s.store[0] = store[0];
            s.store[1] = store[1];
            s.known = known;
            return s;
        }

        String text() {
            StringBuilder b = new StringBuilder();
            for (Ticket t : tickets) {
                b.append(t.lives).append(t.owner).append(t.bound).append(t.ticks).append(';');
            }
            return b.append(store[0]).append(',').append(store[1]).append(',').append(known).toString();
        }

        Ticket in(int browser) {
            return store[browser] == NONE ? null : tickets.get(store[browser]);
        }
    }

    /** A walk's outcome. */
    static final class Outcome {
        int answer = 0;
        int kind = 0;
        int met = 0;
        int[] row = {};
    }

    Map<String, Integer> words = new LinkedHashMap<>();
    final int[] costs = {1, 1, 1, 1, 1, 1, 1};
    final List<int[]> tasks = new ArrayList<>();

    /** What house() answers for a text; the HOUSE, if it is one. */
    int read(String text) {
        Map<String, Integer> found = new LinkedHashMap<>();
        Matcher letters = Pattern.compile("[a-z]+").matcher(text);
        Matcher digits = Pattern.compile("[0-9]+").matcher(text);
        int at = 0;
        boolean blankDue = false;
        while (at < text.length()) {
            if (text.charAt(at) == ' ') {
                blankDue = false;
                at++;
                continue;
            }
            letters.region(at, text.length());
            if (blankDue || !letters.lookingAt() || !WORDS.contains(letters.group())) {
                return -2 - (1 + 4 * at);
            }
            if (found.containsKey(letters.group())) {
                return -2 - (1 + 4 * at + 2);
            }
            at = letters.end();
            int number = 1;
            if (letters.group().equals("life")) {
                while (at < text.length() && text.charAt(at) == ' ') {
                    at++;
                }
                digits.region(at, text.length());
                if (!digits.lookingAt()) {
                    return -2 - (1 + 4 * at);
                }
                if (!digits.group().matches("0?[1-9]")) {
                    return -2 - (1 + 4 * at + 1);
                }
                number = Integer.parseInt(digits.group());
                at = digits.end();
            }
            blankDue = true;
            found.put(letters.group(), number);
        }
        words = found;
        return found.size();
    }

    boolean told(String word) {
        return words.containsKey(word);
    }

    int limit(int rules) {
        int limit = words.getOrDefault("life", 0);
        if ((rules & 64) == 0) {
            return limit;
        }
        return limit == 0 ? 2 : Math.min(limit, 2);
    }

    static boolean good(Ticket t, int browser, int rules) {
        return t != null && t.lives && ((rules & 4) == 0 || t.bound == browser);
    }

    /** Does a LETTER: 0 REFUSED, 1 done, 2 to 4 done with a FLAW. */
    int act(Scene s, int rules, int letter) {
        Ticket mine = s.in(0);
        Ticket his = s.in(1);
        switch (letter) {
            case 0:
                return visit(s, 0);
            case 7:
                return visit(s, 1);
            case 1:
                return login(s, 0, rules);
            case 8:
                return login(s, 1, rules);
            case 2:
                if (mine == null || !mine.lives || mine.owner == 0) {
                    return 0;
                }
                if (!told("stay") || (rules & 2) != 0) {
                    mine.lives = false;
                }
                s.store[0] = NONE;
                return 1;
            case 3:
                if (!good(mine, 0, rules) || mine.owner == 0) {
                    return 0;
                }
                return mine.owner == 2 ? 4 : 1;
            case 4:
                if (!told("links") || (rules & 16) != 0 || his == null) {
                    return 0;
                }
                s.store[0] = s.store[1];
                return 1;
            case 5:
                return told("forms") && (rules & 8) == 0 && good(mine, 0, rules) && mine.owner == 1 ? 3 : 0;
            case 6:
                if (!told("told") || (rules & 32) != 0 || mine == null) {
                    return 0;
                }
                s.known |= 1 << s.store[0];
                return 1;
            case 9:
                for (int t = 0; t < s.tickets.size(); t++) {
                    Ticket ticket = s.tickets.get(t);
                    if ((s.known >> t & 1) == 1 && ticket.owner == 1 && good(ticket, 1, rules)) {
                        return 2;
                    }
                }
                return 0;
            case 10:
                tick(s, limit(rules));
                return 1;
            default:
                return NONE;
        }
    }

    private static void tick(Scene s, int limit) {
        for (Ticket t : s.tickets) {
            if (limit > 0 && t.lives) {
                t.ticks++;
                t.lives = t.ticks < limit;
            }
        }
    }

    private int visit(Scene s, int browser) {
        boolean needs = told("early") && (s.in(browser) == null || !s.in(browser).lives);
        return !needs || give(s, browser, 0) ? 1 : 0;
    }

    private int login(Scene s, int browser, int rules) {
        Ticket old = s.in(browser);
        if (told("keep") && (rules & 1) == 0 && good(old, browser, rules)) {
            old.owner = browser + 1;
            old.bound = browser;
            return 1;
        }
        if (!give(s, browser, browser + 1)) {
            return 0;
        }
        if ((rules & 1) != 0 && old != null) {
            old.lives = false;
        }
        return 1;
    }

    private static boolean give(Scene s, int browser, int owner) {
        if (s.tickets.size() == 4) {
            return false;
        }
        Ticket t = new Ticket(browser);
        t.owner = owner;
        s.store[browser] = s.tickets.size();
        s.tickets.add(t);
        if (browser == 1) {
            s.known |= 1 << s.store[1];
        }
        return true;
    }

    boolean goes(int[] letters, int rules) {
        Scene s = new Scene();
        for (int l : letters) {
            if (act(s, rules, l) == 0) {
                return false;
            }
        }
        return true;
    }

    /** THE WALK by layers of unlike states, each with its least row. */
    Outcome walk(int rules, int length, int kinds) {
        Outcome out = new Outcome();
        Map<String, Scene> layer = new LinkedHashMap<>();
        Map<String, int[]> rows = new LinkedHashMap<>();
        Set<String> met = new HashSet<>();
        Scene empty = new Scene();
        layer.put(empty.text(), empty);
        rows.put(empty.text(), new int[0]);
        met.add(empty.text());
        for (int done = 0; done <= length; done++) {
            if (met.size() > 20000) {
                out.answer = -2;
                out.met = 20000;
                return out;
            }
            out.met = met.size();
            if (done == length) {
                return out;
            }
            Map<String, Scene> next = new LinkedHashMap<>();
            Map<String, int[]> nextRows = new LinkedHashMap<>();
            for (String key : layer.keySet()) {
                for (int l = 0; l <= 10; l++) {
                    Scene s = layer.get(key).copy();
                    int answer = act(s, rules, l);
                    int[] row = Arrays.copyOf(rows.get(key), done + 1);
                    row[done] = l;
                    if (answer > 1 && (kinds >> (answer - 2) & 1) == 1) {
                        out.answer = done + 1;
                        out.kind = answer - 1;
                        out.row = row;
                        return out;
                    }
                    if (answer == 1 && met.add(s.text())) {
                        next.put(s.text(), s);
                        nextRows.put(s.text(), row);
                    }
                }
            }
            layer = next;
            rows = nextRows;
        }
        return out;
    }

    /** THE WALK as the document tells it: every row, one after the other, nothing left out. */
    Outcome everyRow(int rules, int length, int kinds) {
        Outcome out = new Outcome();
        for (int len = 1; len <= length && out.answer == 0; len++) {
            int[] row = new int[len];
            if (leastOf(new Scene(), rules, kinds, row, 0, out)) {
                out.answer = len;
                out.row = row;
            }
        }
        int most = out.answer == 0 ? length : out.answer - 1;
        Set<String> met = new HashSet<>();
        meet(new Scene(), rules, most, met);
        out.met = met.size();
        return out;
    }

    private boolean leastOf(Scene s, int rules, int kinds, int[] row, int k, Outcome out) {
        for (int l = 0; l <= 10; l++) {
            Scene next = s.copy();
            int answer = act(next, rules, l);
            row[k] = l;
            if (k == row.length - 1) {
                if (answer > 1 && (kinds >> (answer - 2) & 1) == 1) {
                    out.kind = answer - 1;
                    return true;
                }
            } else if (answer == 1 && leastOf(next, rules, kinds, row, k + 1, out)) {
                return true;
            }
        }
        return false;
    }

    private void meet(Scene s, int rules, int left, Set<String> met) {
        met.add(s.text());
        for (int l = 0; l <= 10 && left > 0; l++) {
            Scene next = s.copy();
            if (act(next, rules, l) == 1) {
                meet(next, rules, left - 1, met);
            }
        }
    }

    /** THE CHEAPEST RULES, all sets compared. */
    int mend(int length, int kinds) {
        int best = -2;
        long bestKey = Long.MAX_VALUE;
        for (int set = 0; set < 128; set++) {
            boolean fits = walk(set, length, kinds).answer == 0;
            for (int[] task : tasks) {
                fits &= !goes(task, 0) || goes(task, set);
            }
            long key = coins(set) * 10000L + Integer.bitCount(set) * 1000L + set;
            if (fits && key < bestKey) {
                best = set;
                bestKey = key;
            }
        }
        return best;
    }

    private long coins(int set) {
        long sum = 0;
        for (int rule = 0; rule < 7; rule++) {
            sum += (set >> rule & 1) * costs[rule];
        }
        return sum;
    }
}
