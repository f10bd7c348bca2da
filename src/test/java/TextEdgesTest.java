/** Edges of promises 1 to 6: an empty and a full TAPE, the text of a HOUSE, its FAULTS, COSTS. */
public final class TextEdgesTest {
    private static final Check CHECK = new Check();
    private static final String[] WORDS = {"early", "links", "keep", "stay", "told", "forms", "life"};
    private static final int MIN = Integer.MIN_VALUE;
    private static final int MAX = Integer.MAX_VALUE;

    public static void main(String[] args) {
        aNewObjectIsEmpty();
        tapeFillsToTwoHundred();
        aFeedThatDoesNotFitLeavesTheBytes();
        eachByteOfAFeedHasItsPlace();
        bytesComeBehindWhatEndLeft();
        endTakesNoughtToAll();
        anEmptyTapeIsAHouse();
        aFaultEmptiesTheTapeAndLeavesTheHouse();
        allSetsOfWords();
        twoHundredBytes();
        blanksBetween();
        eachByteAlone();
        eachByteBehindAWord();
        eachByteBehindLife();
        eachByteBehindANumber();
        wordsOneLetterOff();
        eachWordTwice();
        numbersOfOneAndTwoDigits();
        numbersTooLong();
        noNumberUpToTheEnd();
        everyPlaceOfAFault();
        theFirstFaultAlong();
        hasOfOthers();
        costsFromNoughtToNinetyNine();
        CHECK.finish();
    }

    private static void due(String call, long got, long want) {
        CHECK.due(call, got, want);
    }

    private static int faultAt(int place, int kind) {
        return -2 - (1 + 4 * place + kind);
    }

    private static void fault(String text, int place, int kind) {
        due("4: house of '" + text + "'", Check.house(new TicketJudge(), text), faultAt(place, kind));
    }

    private static void aNewObjectIsEmpty() {
        TicketJudge x = new TicketJudge();
        String want = "row 0 -1 -1 0 0 0 ticket -1 -1 -1 -1 ticket -1 -1 -1 -1 ticket -1 -1 -1 -1"
            + " ticket -1 -1 -1 -1 done has 0 0 0 0 0 0 0"
            + " count 0 0 0 -1 -1 -1 -1 -1 -1 -1 1 1 1 1 1 1 1"
            + " goes -1-1 -1-1 -1-1 -1-1 -1-1 -1-1 walked -1 -1 least -1 -1 -1 -1 -1 -1 -1 -1 -1 -1";
        CHECK.same("1: a new object", Check.looks(x), want);
        TicketJudge used = Check.judge("early forms life 3");
        Check.row(used, 5, 0, 1);
        used.cost(3, 7);
        used.task(1, 1);
        used.walk(0, 3, 7);
        CHECK.same("1: a new one beside a used one", Check.looks(new TicketJudge()), want);
    }

    private static void tapeFillsToTwoHundred() {
        TicketJudge x = new TicketJudge();
        for (int k = 1; k <= 10; k++) {
            due("2: feed " + k, x.feed(MIN, MAX, 0, -1, 1), 20 * k);
            due("18: count(0)", x.count(0), 20 * k);
        }
        due("2: more than 200", x.feed(0, 0, 0, 0, 0), -1);
        due("2: and again", x.feed(MIN, MAX, 0, -1, 1), -1);
        due("2: none came", x.count(0), 200);
        for (int n = 200; n > 180; n--) {
            due("3: end(" + n + ")", x.end(n), n);
            due("2: feed behind " + n, x.feed(0, 0, 0, 0, 0), -1);
            due("2: none came", x.count(0), n);
        }
        due("3: end(180)", x.end(180), 180);
        due("2: feed behind 180", x.feed(0, 0, 0, 0, 0), 200);
        x.house();
        due("2: feed behind house()", x.feed(0, 0, 0, 0, 0), 20);
    }

    private static void aFeedThatDoesNotFitLeavesTheBytes() {
        TicketJudge x = new TicketJudge();
        Check.put(x, Check.padded("keep", 196) + "told");
        due("2: no room", x.feed(0x21212121, 0x21212121, 0x21212121, 0x21212121, 0x21212121), -1);
        due("4: the bytes are as they were", x.house(), 2);
        due("5: keep", x.has(2), 1);
        due("5: told", x.has(4), 1);
        Check.put(x, Check.padded("keep", 177) + "told");
        due("2: no room behind 181", x.feed(0x21212121, 0x21212121, 0x21212121, 0x21212121, 0x21212121), -1);
        due("4: nor a part of it", x.house(), 2);
    }

    private static void eachByteOfAFeedHasItsPlace() {
        for (int place = 0; place < 20; place++) {
            for (int b : new int[] {0, 1, 31, 33, 127, 128, 160, 255}) {
                int[] n = {0x20202020, 0x20202020, 0x20202020, 0x20202020, 0x20202020};
                int shift = 24 - 8 * (place % 4);
                n[place / 4] = n[place / 4] & ~(255 << shift) | b << shift;
                TicketJudge x = new TicketJudge();
                x.feed(n[0], n[1], n[2], n[3], n[4]);
                due("2: byte " + b + " at " + place, x.house(), faultAt(place, 0));
            }
        }
    }

    private static void bytesComeBehindWhatEndLeft() {
        for (int n = 0; n <= 20; n++) {
            TicketJudge x = new TicketJudge();
            x.feed(0x20202020, 0x20202020, 0x20202020, 0x20202020, 0x20202020);
            due("3: end(" + n + ")", x.end(n), n);
            due("2: behind it", x.feed(0x20212020, 0x20202020, 0x20202020, 0x20202020, 0x20202020), n + 20);
            due("4: where they came", x.house(), faultAt(n + 1, 0));
        }
        TicketJudge y = new TicketJudge();
        Check.put(y, "early links keep");
        y.end(6);
        y.feed(0x73746179, 0x20202020, 0x20202020, 0x20202020, 0x20202020);
        due("3: the first ones alone", y.house(), 2);
        due("5: early", y.has(0), 1);
        due("5: links is gone", y.has(1), 0);
        due("5: stay", y.has(3), 1);
    }

    private static void endTakesNoughtToAll() {
        TicketJudge x = new TicketJudge();
        due("3: end(0) of none", x.end(0), 0);
        due("3: end(1) of none", x.end(1), -1);
        due("3: end(-1) of none", x.end(-1), -1);
        for (int k = 0; k < 10; k++) {
            x.feed(0, 0, 0, 0, 0);
        }
        for (int n : new int[] {201, 220, MAX, -1, -200, MIN, 65536, 256}) {
            due("3: end(" + n + ") of 200", x.end(n), -1);
            due("3: nothing happens", x.count(0), 200);
        }
        due("3: end(200) of 200", x.end(200), 200);
        due("3: end(199)", x.end(199), 199);
        due("3: end(200) of 199", x.end(200), -1);
        due("3: nothing happens", x.count(0), 199);
        due("3: end(0)", x.end(0), 0);
        due("3: end(1) behind it", x.end(1), -1);
        TicketJudge y = new TicketJudge();
        Check.put(y, "forms");
        due("3: end(6) of 5", y.end(6), -1);
        due("4: the bytes stay", y.house(), 1);
    }

    private static void anEmptyTapeIsAHouse() {
        TicketJudge x = Check.judge("early links keep stay told forms life 9");
        due("4: house() of no bytes", x.house(), 0);
        for (int w = 0; w <= 6; w++) {
            due("5: has(" + w + ") of an empty text", x.has(w), 0);
        }
        TicketJudge y = Check.judge("early life 3");
        Check.put(y, "x");
        y.end(0);
        due("4: house() of end(0)", y.house(), 0);
        due("5: has(6)", y.has(6), 0);
        TicketJudge z = Check.judge("early life 3");
        due("4: 200 blanks", Check.house(z, Check.padded("", 200)), 0);
        due("5: has(0)", z.has(0), 0);
    }

    private static void aFaultEmptiesTheTapeAndLeavesTheHouse() {
        String[] texts = {"x", "early x", "life", "life 0", "life 4 told told", "early early", "life 3 4"};
        for (String text : texts) {
            TicketJudge x = Check.judge("links stay life 7");
            due("4: '" + text + "' is none", Check.house(x, text) <= -3 ? 1 : 0, 1);
            due("4: the TAPE is empty", x.count(0), 0);
            int[] words = {0, 1, 0, 1, 0, 0, 7};
            for (int w = 0; w <= 6; w++) {
                due("4: behind '" + text + "' has(" + w + ")", x.has(w), words[w]);
            }
            due("4: the next text is a HOUSE again", Check.house(x, "told"), 1);
            due("5: links is gone", x.has(1), 0);
            due("5: life is gone", x.has(6), 0);
        }
    }

    private static void allSetsOfWords() {
        for (int set = 0; set < 128; set++) {
            StringBuilder text = new StringBuilder();
            for (int w = 0; w <= 6; w++) {
                text.append((set >> w & 1) == 0 ? "" : w == 6 ? "life 9 " : WORDS[w] + " ");
            }
            TicketJudge x = new TicketJudge();
            due("4: '" + text + "'", Check.house(x, text.toString()), Integer.bitCount(set));
            for (int w = 0; w <= 6; w++) {
                due("5: '" + text + "' has(" + w + ")", x.has(w), (set >> w & 1) * (w == 6 ? 9 : 1));
            }
        }
    }

    private static void twoHundredBytes() {
        for (int w = 0; w < 6; w++) {
            String text = Check.padded("", 200 - WORDS[w].length()) + WORDS[w];
            TicketJudge x = new TicketJudge();
            due("4: '" + WORDS[w] + "' up to byte 200", Check.house(x, text), 1);
            due("5: has(" + w + ")", x.has(w), 1);
            fault(text.substring(0, 199), 200 - WORDS[w].length(), 0);
        }
        TicketJudge x = new TicketJudge();
        due("4: a NUMBER as byte 200", Check.house(x, Check.padded("life", 199) + "9"), 1);
        due("5: has(6)", x.has(6), 9);
        due("4: two digits up to byte 200", Check.house(x, Check.padded("life", 198) + "08"), 1);
        fault(Check.padded("life", 198) + "10", 198, 1);
        fault(Check.padded("life", 197) + "001", 197, 1);
        fault(Check.padded("life 1", 199) + "1", 199, 0);
        fault(Check.padded("", 196) + "life", 200, 0);
        fault(Check.padded("told", 196) + "told", 196, 2);
        StringBuilder letters = new StringBuilder();
        while (letters.length() < 200) {
            letters.append("early");
        }
        fault(letters.toString(), 0, 0);
    }

    private static void blanksBetween() {
        TicketJudge x = new TicketJudge();
        due("4: a blank ahead", Check.house(x, " early"), 1);
        due("4: a blank behind", Check.house(x, "early "), 1);
        due("4: one between", Check.house(x, "early links"), 2);
        due("4: many between", Check.house(x, "early      links"), 2);
        fault("earlylinks", 0, 0);
        fault("early\tlinks", 5, 0);
        fault("early\nlinks", 5, 0);
        fault("early,links", 5, 0);
        fault("early\u00a0links", 5, 0);
        for (int w = 0; w < 6; w++) {
            fault("life 3" + WORDS[w], 6, 0);
        }
    }

    private static void eachByteAlone() {
        for (int b = 0; b < 256; b++) {
            String text = String.valueOf((char) b);
            due("4: byte " + b, Check.house(new TicketJudge(), text), b == 32 ? 0 : faultAt(0, 0));
        }
    }

    private static void eachByteBehindAWord() {
        for (int b = 0; b < 256; b++) {
            boolean small = b >= 'a' && b <= 'z';
            int want = b == 32 ? 1 : faultAt(small ? 1 : 5, 0);
            due("4: byte " + b + " behind keep", Check.house(new TicketJudge(), " keep" + (char) b), want);
        }
    }

    private static void eachByteBehindLife() {
        for (int b = 0; b < 256; b++) {
            boolean small = b >= 'a' && b <= 'z';
            int want = b >= '1' && b <= '9' ? 1 : b == '0' ? faultAt(5, 1) : faultAt(b == 32 ? 6 : 5, 0);
            due("4: byte " + b + " behind life and a blank", Check.house(new TicketJudge(), "life " + (char) b), want);
            int near = b >= '1' && b <= '9' ? 1 : b == '0' ? faultAt(4, 1) : faultAt(small ? 0 : b == 32 ? 5 : 4, 0);
            due("4: byte " + b + " behind life", Check.house(new TicketJudge(), "life" + (char) b), near);
        }
    }

    private static void eachByteBehindANumber() {
        for (int b = 0; b < 256; b++) {
            boolean digit = b >= '0' && b <= '9';
            int want = b == 32 ? 1 : digit ? faultAt(5, 1) : faultAt(6, 0);
            due("4: byte " + b + " behind life 1", Check.house(new TicketJudge(), "life 1" + (char) b), want);
        }
    }

    private static void wordsOneLetterOff() {
        for (String word : WORDS) {
            fault(word.substring(0, word.length() - 1), 0, 0);
            fault(word.substring(1), 0, 0);
            fault(word.substring(0, word.length() - 1) + " " + word.substring(word.length() - 1), 0, 0);
            fault(word + "s", 0, 0);
            fault("a" + word, 0, 0);
            fault(word.toUpperCase(), 0, 0);
            for (int k = 0; k < word.length(); k++) {
                String other = word.substring(0, k) + (char) (word.charAt(k) - 1) + word.substring(k + 1);
                // A sign below 'a' stands where the WORD ahead of it ends, which is none.
                fault("  " + other + " 3", 2, 0);
            }
        }
        String[] notAdded = {"turn", "end", "bind", "once", "nolinks", "silent", "short"};
        for (String rule : notAdded) {
            fault("told " + rule, 5, 0);
        }
    }

    private static void eachWordTwice() {
        for (String word : WORDS) {
            String one = word.equals("life") ? "life 2" : word;
            fault(one + " " + one, one.length() + 1, 2);
            String between = word.equals("told") ? " keep " : " told ";
            fault(one + between + one, one.length() + between.length(), 2);
            fault(one + " " + word, one.length() + 1, 2);
            due("4: once", Check.house(new TicketJudge(), one), 1);
        }
        TicketJudge x = Check.judge("early");
        due("4: once in each HOUSE", Check.house(x, "early"), 1);
        Check.house(x, "keep x");
        due("4: not twice with a text that was none", Check.house(x, "keep"), 1);
    }

    private static void numbersOfOneAndTwoDigits() {
        for (int n = 0; n < 110; n++) {
            // 0 to 9 with one digit, then 00 to 99 with two.
            String digits = n < 10 ? "" + n : "" + (n - 10) / 10 + (n - 10) % 10;
            int value = Integer.parseInt(digits);
            TicketJudge x = Check.judge("life 4");
            boolean fits = value >= 1 && value <= 9;
            due("4: life " + digits, Check.house(x, "told life " + digits), fits ? 2 : faultAt(10, 1));
            due("5: life " + digits, x.has(6), fits ? value : 4);
        }
    }

    private static void numbersTooLong() {
        String[] numbers = {"000", "001", "009", "010", "100", "999", "0001", "00000000001",
            "256", "257", "65537", "2147483648", "4294967295", "4294967296", "4294967297", "4294967305",
            "9223372036854775808", "18446744073709551616", "18446744073709551617"};
        for (String number : numbers) {
            fault("life " + number, 5, 1);
            fault("life " + number + " told x", 5, 1);
            fault("life" + number + "x", 4, 1);
        }
        StringBuilder ones = new StringBuilder("life ");
        while (ones.length() < 200) {
            ones.append(ones.length() < 199 ? '0' : '1');
        }
        fault(ones.toString(), 5, 1);
    }

    private static void noNumberUpToTheEnd() {
        for (int length = 4; length <= 200; length++) {
            fault(Check.padded("life", length), length, 0);
        }
        fault("life told", 5, 0);
        fault("life life", 5, 0);
        fault("life life 3", 5, 0);
        fault("life -3", 5, 0);
        fault("life +3", 5, 0);
        for (int w = 0; w < 6; w++) {
            fault(WORDS[w] + "1", WORDS[w].length(), 0);
            fault(WORDS[w] + " 1", WORDS[w].length() + 1, 0);
        }
        fault("1", 0, 0);
        fault("   9 life 1", 3, 0);
        fault("life 1 1", 7, 0);
    }

    private static void everyPlaceOfAFault() {
        for (int place = 0; place < 200; place++) {
            fault(Check.padded("", place) + "!", place, 0);
            fault(Check.padded(Check.padded("", place) + "?", 200), place, 0);
        }
        for (int place = 5; place < 197; place++) {
            fault(Check.padded("keep", place) + "keep", place, 2);
            fault(Check.padded("life", place) + "10", place, 1);
        }
    }

    private static void theFirstFaultAlong() {
        fault("early early x", 6, 2);
        fault("early x early", 6, 0);
        fault("life 0 x", 5, 1);
        fault("x life 0", 0, 0);
        fault("early early life 0", 6, 2);
        fault("life 0 life 0", 5, 1);
        fault("life 99x", 5, 1);
        fault("life 9x", 6, 0);
        fault("early! early", 5, 0);
        fault("life 3 life", 7, 2);
    }

    private static void hasOfOthers() {
        TicketJudge x = Check.judge("early links keep stay told forms life 9");
        for (int n : new int[] {-1, 7, 8, -2, 32, 33, 38, 64, MIN, MAX}) {
            due("5: has(" + n + ")", x.has(n), -1);
        }
    }

    private static void costsFromNoughtToNinetyNine() {
        for (int rule = 0; rule < 7; rule++) {
            TicketJudge x = new TicketJudge();
            int before = 1;
            for (int coins : new int[] {0, 99, 98, 1, 50, 0}) {
                due("6: cost(" + rule + ", " + coins + ")", x.cost(rule, coins), before);
                before = coins;
            }
            for (int coins : new int[] {-1, 100, 101, 127, 128, 255, 256, MIN, MAX}) {
                due("6: cost(" + rule + ", " + coins + ")", x.cost(rule, coins), -1);
                due("6: nothing happens", x.count(10 + rule), 0);
            }
            for (int other = 0; other < 7; other++) {
                due("6: others are as they were", x.count(10 + other), other == rule ? 0 : 1);
            }
        }
        TicketJudge x = new TicketJudge();
        for (int rule : new int[] {-1, 7, 8, 10, 16, 32, MIN, MAX}) {
            due("6: cost(" + rule + ", 5)", x.cost(rule, 5), -1);
        }
        for (int rule = 0; rule < 7; rule++) {
            due("6: nothing happens", x.count(10 + rule), 1);
        }
    }
}
