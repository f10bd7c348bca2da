import java.nio.charset.StandardCharsets;

/** What the tests share: answers against what is due, and texts put on the TAPE. */
final class Check {
    private int wrong = 0;
    private int seen = 0;

    void due(String call, long got, long want) {
        seen++;
        if (got != want) {
            wrong++;
            if (wrong <= 40) {
                System.out.println(call + " answered " + got + ", due is " + want);
            }
        }
    }

    void due(String call, boolean got, boolean want) {
        due(call, got ? 1 : 0, want ? 1 : 0);
    }

    int wrong() {
        return wrong;
    }

    void finish() {
        System.out.println(wrong == 0 ? seen + " answers are as due" : wrong + " answers are not as due");
        if (wrong != 0) {
            System.exit(1);
        }
    }

    /** Puts a text on an empty TAPE; each of its chars is a byte. */
    static void put(TicketJudge x, String text) {
        byte[] bytes = text.getBytes(StandardCharsets.ISO_8859_1);
        for (int from = 0; from < bytes.length; from += 20) {
            int[] words = new int[5];
            for (int k = 0; k < 20; k++) {
                int b = from + k < bytes.length ? bytes[from + k] & 255 : 0;
                words[k / 4] = words[k / 4] << 8 | b;
            }
            x.feed(words[0], words[1], words[2], words[3], words[4]);
        }
        x.end(bytes.length);
    }

    /** Puts a text on the TAPE and makes it the HOUSE: what house() answers. */
    static int house(TicketJudge x, String text) {
        put(x, text);
        return x.house();
    }

    static TicketJudge judge(String text) {
        TicketJudge x = new TicketJudge();
        if (house(x, text) < 0) {
            throw new IllegalStateException("not a house: " + text);
        }
        return x;
    }

    /** A row from all empty on, its last LETTER's answer. */
    static int row(TicketJudge x, int rules, int... letters) {
        x.begin(rules);
        int answer = TicketJudge.NONE;
        for (int l : letters) {
            answer = x.letter(l);
        }
        return answer;
    }

    /** Four bits a LETTER, the first one lowest. */
    static long packed(int... letters) {
        long all = 0;
        for (int k = 0; k < letters.length; k++) {
            all |= (long) letters[k] << 4 * k;
        }
        return all;
    }
}
