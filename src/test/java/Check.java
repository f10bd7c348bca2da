import java.nio.charset.StandardCharsets;

/** What the tests share: answers against what is due, and texts put on the TAPE. */
final class Check {
    private int wrong = 0;
    private int seen = 0;

    void due(String call, long got, long want) {
        seen++;
        if (got != want) {
            wrong++;
            if (wrong <= 40) {
                System.out.println(call + " answered " + got + ", due is " + want);
            }
        }
    }

    void due(String call, boolean got, boolean want) {
        due(call, got ? 1 : 0, want ? 1 : 0);
    }

    int wrong() {
        return wrong;
    }

    void finish() {
        System.out.println(wrong == 0 ? seen + " answers are as due" : wrong + " answers are not as due");
        if (wrong != 0) {
            System.exit(1);
        }
    }

    /** A text with blanks behind it, up to a length. */
    static String padded(String text, int length) {
        StringBuilder b = new StringBuilder(text);
        while (b.length() < length) {
            b.append(' ');
        }
        return b.toString();
    }

    /** Puts a text on an empty TAPE; each of its chars is a byte. */
    static void put(TicketJudge x, String text) {
        byte[] bytes = text.getBytes(StandardCharsets.ISO_8859_1);
        for (int from = 0; from < bytes.length; from += 20) {
            int[] words = new int[5];
            for (int k = 0; k < 20; k++) {
                int b = from + k < bytes.length ? bytes[from + k] & 255 : 0;
                words[k / 4] = words[k / 4] << 8 | b;
            }
            x.feed(words[0], words[1], words[2], words[3], words[4]);
        }
        x.end(bytes.length);
    }

    /** Puts a text on the TAPE and makes it the HOUSE: what house() answers. */
    static int house(TicketJudge x, String text) {
        put(x, text);
        return x.house();
    }

    static TicketJudge judge(String text) {
        TicketJudge x = new TicketJudge();
        if (house(x, text) < 0) {
            throw new IllegalStateException("not a house: " + text);
        }
        return x;
    }

    /** A row from all empty on, its last LETTER's answer. */
    static int row(TicketJudge x, int rules, int... letters) {
        x.begin(rules);
        int answer = TicketJudge.NONE;
        for (int l : letters) {
            answer = x.letter(l);
        }
        return answer;
    }

    /** All that can be seen of the row: 26 calls. */
    static String rowLooks(TicketJudge x) {
        StringBuilder b = new StringBuilder("row");
        for (int what = 0; what <= 5; what++) {
            b.append(' ').append(x.row(what));
        }
        for (int t = 0; t < 4; t++) {
            b.append(" ticket");
            for (int what = 0; what <= 3; what++) {
                b.append(' ').append(x.ticket(t, what));
            }
        }
        return b.append(" done").toString();
    }

    /** All that can be seen without a change: some 80 calls. */
    static String looks(TicketJudge x) {
        StringBuilder b = new StringBuilder(rowLooks(x)).append(" has");
        for (int word = 0; word <= 6; word++) {
            b.append(' ').append(x.has(word));
        }
        b.append(" count");
        for (int what = 0; what <= 16; what++) {
            b.append(' ').append(x.count(what));
        }
        b.append(" goes");
        for (int task = 0; task < 6; task++) {
            b.append(' ').append(x.goes(task, 0)).append(x.goes(task, 65));
        }
        b.append(" walked ").append(x.walked(0)).append(' ').append(x.walked(1)).append(" least");
        for (int k = 0; k < 10; k++) {
            b.append(' ').append(x.least(k));
        }
        return b.toString();
    }

    void same(String call, String got, String want) {
        seen++;
        if (!got.equals(want)) {
            wrong++;
            if (wrong <= 40) {
                System.out.println(call + ": " + got + ", due is " + want);
            }
        }
    }

    /** Four bits a LETTER, the first one lowest. */
    static long packed(int... letters) {
        long all = 0;
        for (int k = 0; k < letters.length; k++) {
            all |= (long) letters[k] << 4 * k;
        }
        return all;
    }
}
