/** Block 1: THE TAPE, the tokens, the grammar, FAULT; promises 12 and 13. */
public final class TokensTest {
    private static final String[] NAMES = {"kind", "weekday", "hour", "long", "chair", "post", "double", "desk", "week",
        "rest"};
    private static final String[] KEYS = {"bar", "count", "pay", "or", "and", "not"};
    private static final String[] OPENERS = {"(", "- ", "not "};
    private static final String[] ALL = {"1", "long", "(", ")", ";", "+", "-", "*", "<", "=", "or", "and", "not", "bar",
        "count", "pay", "?"};
    private static final String[] WHOLE = {"bar", "not", "(", "kind", "=", "1", ")", "or", "2", "<", "-", "3", "*",
        "desk", "and", "hour", ";", "count", "long", "+", "4", "-", "5", ";", "pay", "(", "6", ")", ";"};
    private static final String END = " ; pay 0 ;";
    private static final int FINE = 1;

    private final Check check;

    private TokensTest(Check check) {
        this.check = check;
    }

    public static void main(String[] args) {
        Check check = new Check("TokensTest");
        TokensTest test = new TokensTest(check);
        test.lowestBytesFirst();
        test.threeHundredBytes();
        test.theTapeIsEmptyThen();
        test.noTextMoreHasRoom();
        test.everyByte();
        test.words();
        test.wordsTooLong();
        test.numbersTooLong();
        test.asLongAsCanBe();
        test.blanksBetween();
        test.endsTooEarly();
        test.wrongTokenAnywhere();
        test.theFirstFaultCounts();
        test.bars();
        test.sixAreOpen();
        test.openTillItEnds();
        test.openAnewInEachPart();
        test.allShortTexts();
        check.finish();
    }

    private void answers(String text, int want) {
        check.due("text '" + text + "'", Check.text(new OrchestraYear(), text), want);
    }

    private void fine(String text) {
        answers(text, FINE);
    }

    private void fault(String text, int place) {
        answers(text, -10 - place);
    }

    /** Promise 12: "The n lowest bytes of a number, the lowest first". */
    private void lowestBytesFirst() {
        String text = "count 1;pay 1;";
        for (int n = 1; n <= 8; n++) {
            OrchestraYear x = new OrchestraYear();
            byte[] bytes = (text + "?????????").getBytes(java.nio.charset.StandardCharsets.ISO_8859_1);
            int fed = 0;
            while (fed < text.length()) {
                int some = Math.min(n, text.length() - fed);
                long junk = some == 8 ? 0 : -1L << (8 * some);
                check.due("feed", x.feed(some, Check.packed(bytes, fed, 8) | junk), fed + some);
                fed += some;
            }
            check.due("read " + n + " at a time", x.text(), FINE);
            x.force(1, 0);
            x.put(0, 2, 0);
            for (int i = 0; i < text.length(); i++) {
                check.due("byte " + i, x.forge(0, 1, i), text.charAt(i));
            }
            check.due("no byte more", x.forge(0, 1, text.length()), -1);
        }
    }

    /** "THE TAPE (300 bytes at most)". */
    private void threeHundredBytes() {
        String text = "count 1;pay 1;";
        for (int n = 1; n <= 8; n++) {
            OrchestraYear x = new OrchestraYear();
            check.due("bytes", Check.feed(x, text + " ".repeat(300 - n - text.length())), 300 - n);
            for (int more = n + 1; more <= 8; more++) {
                check.due(more + " bytes where " + n + " have room", x.feed(more, 0x2020202020202020L), -4);
            }
            check.due("no byte of these came", x.count(4), 300 - n);
            check.due("BAD goes ahead of FULL", x.feed(9, 0), -2);
            check.due("BAD goes ahead of FULL", x.feed(0, 0), -2);
            check.due(n + " bytes have room", x.feed(n, 0x2020202020202020L), 300);
            check.due("then none", x.feed(1, 32), -4);
            check.due("300 bytes", x.count(4), 300);
            check.due("are a text", x.text(), FINE);
        }
        fault("count 1;pay 1" + " ".repeat(287), 300);
        fault("count 1;pay 1;" + " ".repeat(285) + "?", 299);
    }

    /** Promise 13: "THE TAPE, which is empty then", be it a text or not; of no bytes it ends too early. */
    private void theTapeIsEmptyThen() {
        OrchestraYear x = new OrchestraYear();
        check.due("an empty tape", x.text(), -10);
        check.due("a text", Check.text(x, "count 1;pay 1;"), 1);
        check.due("empty then", x.count(4), 0);
        check.due("so it ends too early", x.text(), -10);
        check.due("a fault", Check.text(x, "count 1;pay 1;;"), -24);
        check.due("empty then", x.count(4), 0);
        check.due("fed from its beginning", Check.feed(x, "count"), 5);
        check.due("too early", x.text(), -15);
        check.due("a text", Check.text(x, "count 1;pay 1;"), 2);
        check.due("faults make no text", x.count(3), 3);
    }

    /** Promise 13: "FULL: no TEXT more has room (THE TAPE stays)", be it empty, faulty or a whole text. */
    private void noTextMoreHasRoom() {
        OrchestraYear x = new OrchestraYear();
        for (int i = 1; i < 10; i++) {
            check.due("a fault takes no room", Check.text(x, "count 1;pay 1"), -23);
            check.due("text", Check.text(x, "count 1;pay 1;"), i);
        }
        String[] parts = {"", "count 1", ";pay 1;", "?"};
        int bytes = 0;
        for (String part : parts) {
            bytes += part.length();
            Check.feed(x, part);
            check.due("no room", x.text(), OrchestraYear.FULL);
            check.due("the tape stays", x.count(4), bytes);
            check.due("ten texts", x.count(3), 10);
        }
    }

    private static boolean isIn(String all, char c) {
        return all.indexOf(c) >= 0;
    }

    /** "blanks (32, 10)", the letters, digits and SIGNS; "also of a byte that begins none": each of 256 bytes. */
    private void everyByte() {
        for (char c = 0; c < 256; c++) {
            boolean blank = isIn(" \n", c);
            boolean digit = isIn("0123456789", c);
            answers("count " + c + " ; pay 0 ;", digit ? FINE : blank || isIn("(-", c) ? -18 : -16);
            answers("count 1" + c + "1 ; pay 0 ;", digit || isIn("+-*<=", c) ? FINE : blank || c == ';' ? -18 : -17);
            answers("count 1 ; pay 0 ;" + c, blank ? FINE : -27);
            answers(c + "count 1 ; pay 0 ;", blank ? FINE : -10);
            answers("count (1" + c + " ; pay 0 ;", c == ')' ? FINE : blank || digit || isIn("+-*<=", c) ? -20 : -18);
        }
    }

    /** "of a WORD that is neither KEY nor NAME": each of them as it is, and with a letter more, less, other. */
    private void words() {
        for (String name : NAMES) {
            fine("count " + name + END);
            fault(name + " 1" + END, 0);
        }
        for (String key : KEYS) {
            fault("count " + key + END, key.equals("not") ? 6 + 1 + key.length() : 6);
        }
        for (String[] words : new String[][] {NAMES, KEYS}) {
            for (String word : words) {
                int last = word.length() - 1;
                fault("count " + word + "z" + END, 6);
                fault("count z" + word + END, 6);
                fault("count " + word.substring(0, last) + END, 6);
                fault("count " + word.substring(1) + END, 6);
                fault("count " + word.substring(0, last) + "z" + END, 6);
                fault("count q" + word.substring(1) + END, 6);
                fault("count " + word.toUpperCase(java.util.Locale.ROOT) + END, 6);
            }
        }
        fault("count a" + END, 6);
        fault("count z" + END, 6);
        fault("count 1 z 1" + END, 8);
        fault("count 1 oor 1" + END, 8);
        fault("cound 1" + END, 0);
        fault("count 1 ; pax 0 ;", 10);
    }

    /** "WORDS (a .. z, 7 at most)", "or too long": the fault is where the WORD begins. */
    private void wordsTooLong() {
        fine("count weekday" + END);
        fault("count weekdayx" + END, 6);
        fault("count weekdaylong" + END, 6);
        fault("count xweekday" + END, 6);
        for (int letters = 1; letters <= 200; letters++) {
            fault("count " + "k".repeat(letters) + END, 6);
            fault("k".repeat(letters), 0);
        }
    }

    /** "NUMBERS (digits, 5 at most)", "of a NUMBER too long": the fault is where it begins. */
    private void numbersTooLong() {
        for (int digits = 1; digits <= 200; digits++) {
            for (String digit : new String[] {"0", "1", "9"}) {
                String text = "count " + digit.repeat(digits) + END;
                answers(text, digits <= 5 ? FINE : -16);
            }
        }
        fault("count 000001" + END, 6);
        fault("count 1+999999" + END, 8);
        fine("count 12345 * 67890" + END);
        OrchestraYear x = Check.under("count 99999;pay 00010;");
        x.player(0, 0, 1);
        x.service(0, 0, 0, 1);
        check.due("the greatest number", x.worth(0, 0, 0, 0), 99999);
        check.due("of ten, not of eight", x.worth(0, 0, 0, 1), 10);
    }

    /** "TOKENS, each as long as can be". */
    private void asLongAsCanBe() {
        fine("count1;pay0;");
        fine("count not1or 2and(3);pay0;");
        fine("count long<5and kind=1or 0;pay-1--1;");
        fault("countlong;pay 0;", 0);
        fault("count notlong;pay 0;", 6);
        fault("count 1or2and3x;pay 0;", 14);
        fault("count 1ornot 1;pay 0;", 7);
        fault("count 12 34;pay 0;", 9);
        fault("count long8;pay 0;", 10);
        fault("count 8long;pay 0;", 7);
        fault("count week day;pay 0;", 11);
        fault("count 1==1;pay 0;", 8);
        fault("count 1<=1;pay 0;", 8);
    }

    /** "blanks (32, 10) may stand between", also ahead of the first and behind the last one; not within one. */
    private void blanksBetween() {
        String[] blanks = {" ", "\n", "  ", "\n\n", " \n \n"};
        for (String blank : blanks) {
            StringBuilder text = new StringBuilder(blank);
            for (String token : WHOLE) {
                text.append(token).append(blank);
            }
            fine(text.toString());
        }
        fault("co unt 1;pay 0;", 0);
        fault("count 1 2;pay 0;", 8);
        fault("count\t1;pay 0;", 5);
        fault("count\r\n1;pay 0;", 5);
        fault("   \n", 4);
        fault("\n\n count 1;p ay 0;", 11);
    }

    private static String joined(int tokens, String between) {
        StringBuilder text = new StringBuilder();
        for (int i = 0; i < tokens; i++) {
            text.append(WHOLE[i]).append(between);
        }
        return text.toString();
    }

    /** "(the text's size, if it ends too early)", blanks at its end with it. */
    private void endsTooEarly() {
        for (int tokens = 0; tokens < WHOLE.length; tokens++) {
            for (String between : new String[] {" ", "\n", "   "}) {
                String text = joined(tokens, between);
                fault(text, text.length());
                String bare = text.substring(0, text.length() - (tokens == 0 ? 0 : between.length()));
                fault(bare, bare.length());
            }
        }
        fine(joined(WHOLE.length, " "));
    }

    /** A token that is none, or too long, or can stand nowhere, is the fault at any place that is read. */
    private void wrongTokenAnywhere() {
        String[] wrong = {"?", "A", "123456", "weekdays", "kinds", "\u00e9", "\u0000", "\t", ">", ",", "bar bar"};
        for (int tokens = 0; tokens <= WHOLE.length; tokens++) {
            String text = joined(tokens, " ");
            for (String token : wrong) {
                boolean barStands = token.equals("bar bar") && (tokens == 0 || tokens == 17);
                fault(text + token + " 1 ;", barStands ? text.length() + 4 : text.length());
            }
        }
    }

    private void theFirstFaultCounts() {
        fault("count 1 2 ? 123456 weekdays", 8);
        fault("count ? 1 2" + END, 6);
        fault("bar ; count ; pay ;", 4);
        fault("bar 1 ; bar ( ; count ; pay", 14);
        fault("count 1 ; pay 1 ; bar 1 ; ?", 18);
    }

    /** "(8 bars at most.)", "of a 9th bar". */
    private void bars() {
        for (int bars = 0; bars <= 15; bars++) {
            String text = "bar 1;".repeat(bars) + "count 1;pay 1;";
            answers(text, bars <= 8 ? FINE : -10 - 48);
        }
        fault("bar 1;".repeat(8) + "  bar", 50);
        fault("bar 1;".repeat(8), 48);
        fault("bar 1;".repeat(8) + "pay 1;count 1;", 48);
        fault("bar 1;".repeat(7) + "bar ;bar 1;", 46);
        fault("count 1;bar 1;pay 1;", 8);
        fault("count 1;pay 1;bar 1;", 14);
    }

    private static boolean canStand(String ahead, String opener) {
        return !opener.equals("not ") || !ahead.endsWith("- ");
    }

    /** "of a ( , a not, a - ahead of a ONE while 6 of these are open": every row of six of them, and a seventh. */
    private void sixAreOpen() {
        for (int row = 0; row < 729; row++) {
            StringBuilder opened = new StringBuilder();
            StringBuilder closed = new StringBuilder();
            boolean stands = true;
            for (int i = 0, left = row; i < 6; i++, left /= 3) {
                String opener = OPENERS[left % 3];
                stands &= canStand(opened.toString(), opener);
                opened.append(opener);
                closed.append(opener.equals("(") ? ")" : "");
            }
            if (!stands) {
                continue;
            }
            fine("count " + opened + "1" + closed + END);
            for (String seventh : OPENERS) {
                fault("count " + opened + seventh + "1" + closed + END, 6 + opened.length());
            }
            fault("count " + opened, 6 + opened.length());
            fine("count " + opened + "1 - 2 - 3" + closed + END);
        }
    }

    /** "(a ( till its ) , not and - till what they belong to ends)". */
    private void openTillItEnds() {
        String six = "((((((1))))))";
        fine("count (1)+" + six + END);
        fine("count " + six + "*" + six + "-" + six + END);
        fault("count (1+" + six + ")" + END, 14);
        fine("count -1+" + six + END);
        fine("count -1*" + six + END);
        fine("count -(1)*" + six + END);
        fine("count - - -1 <" + six + END);
        fault("count -" + six + END, 12);
        fault("count not 1*" + six + END, 17);
        fault("count not 1-" + six + END, 17);
        fault("count not 1=" + six + END, 17);
        fault("count not (1)=" + six + END, 19);
        fine("count not 1 and " + six + END);
        fine("count not not 1=1 or " + six + END);
        fine("count not not not not not not 1 and not not not not not not 1" + END);
        fault("count not not not not not not 1 and not not not not not not not 1" + END, 60);
        fine("count (not 1)+" + six + END);
        fine("count (not 1 and (((((1))))))" + END);
        fault("count (not 1 and ((((((1)))))))" + END, 22);
        fine("count (((((-1)+-1)+-1)+-1)+-1)+-1" + END);
        fine("count (((((- 1 - - 2)))))" + END);
        fault("count (((((- - 2)))))" + END, 13);
        fine("count ((((((1-2)-3)-4)-5)-6)-7)" + END);
    }

    private void openAnewInEachPart() {
        String six = "((((((1))))))";
        fine("bar " + six + ";bar not not not not not not 1;count ------1;pay " + six + ";");
        OrchestraYear x = new OrchestraYear();
        check.due("six are open where it ends", Check.text(x, "count (((((("), -22);
        check.due("none is, of the next one", Check.text(x, "count " + six + ";pay " + six + ";"), 1);
        check.due("a seventh", Check.text(x, "count -------1"), -22);
        check.due("none is, of the next one", Check.text(x, "count ------1;pay 0;"), 2);
    }

    /** Every row of up to four tokens as what count is, against the second telling: its fault, or its value. */
    private void allShortTexts() {
        long[] named = {0, 0, 0, 3, 0, 0, 0, 1, 0, 99};
        for (int size = 0, rows = 1; size <= 4; size++, rows *= ALL.length) {
            for (int row = 0; row < rows; row++) {
                StringBuilder part = new StringBuilder();
                for (int i = 0, left = row; i < size; i++, left /= ALL.length) {
                    part.append(" ").append(ALL[left % ALL.length]);
                }
                String text = "count" + part + " ;pay 2;";
                TextModel told = new TextModel(text);
                OrchestraYear x = new OrchestraYear();
                check.due("text '" + text + "'", Check.text(x, text), told.fault < 0 ? FINE : -10 - told.fault);
                if (told.fault < 0) {
                    x.force(1, 0);
                    x.player(0, 0, 1);
                    x.service(0, 0, 0, 3);
                    check.due("value of '" + text + "'", x.worth(0, 0, 0, 0), told.value(0, named));
                }
            }
        }
    }
}
