/** Block 1: what a NAME and an E are, TEXT 0, which TEXT is IN FORCE; promises 14, 15 and 17. */
public final class ValuesTest {
    private static final String ALL_NAMES = "bar kind;bar weekday;bar hour;bar long;bar chair;bar post;bar double;"
        + "bar desk;count week;pay rest;";
    private static final int KIND = 2, WEEKDAY = 3, HOUR = 4, LONG = 5, CHAIR = 6, POST = 7, DOUBLE = 8, DESK = 9;
    private static final int WEEK = 0, REST = 1;
    /** 2 to the 63rd, which is the least long, and the greatest one. */
    private static final String LEAST = "32768*32768*32768*32768*8";
    private static final String GREATEST = "(32768*32768*32768*32768*8-1)";

    private final Check check;

    private ValuesTest(Check check) {
        this.check = check;
    }

    public static void main(String[] args) {
        Check check = new Check("ValuesTest");
        ValuesTest test = new ValuesTest(check);
        test.ofAService();
        test.weekdays();
        test.ofAPlayer();
        test.weekOfOthers();
        test.weekThatIsFull();
        test.restOfHours();
        test.restFromTheLatestEnd();
        test.longsWrap();
        test.whatIsNot0IsTrue();
        test.text0();
        test.toldInTurn();
        test.toldAnew();
        test.text0IfThereIsNone();
        test.tenTexts();
        check.finish();
    }

    private void ofAService() {
        for (int kind = 0; kind < 6; kind++) {
            for (int hour : new int[] {0, 1, 22, 23}) {
                for (int length = 1; length <= 8; length++) {
                    OrchestraYear x = Check.under(ALL_NAMES);
                    x.player(0, 0, 1);
                    x.service(kind, 0, hour, length);
                    check.due("kind", x.worth(0, 0, 0, KIND), kind);
                    check.due("hour", x.worth(0, 0, 0, HOUR), hour);
                    check.due("long", x.worth(0, 0, 0, LONG), length);
                }
            }
        }
    }

    /** "weekday: DAY modulo 7". */
    private void weekdays() {
        for (int day = 0; day <= 400; day++) {
            OrchestraYear x = Check.under(ALL_NAMES);
            x.player(0, 0, 1);
            x.service(0, day, 0, 1);
            check.due("weekday of " + day, x.worth(0, 0, 0, WEEKDAY), day % 7);
        }
    }

    /** "chair: the INSTRUMENT; post, desk; double: 1 if the INSTRUMENT is not its POST, else 0", may it sit or not. */
    private void ofAPlayer() {
        for (int post = 0; post < 6; post++) {
            for (int desk = 1; desk <= 9; desk++) {
                OrchestraYear x = Check.under(ALL_NAMES);
                x.player(post, 0, desk);
                x.service(0, 0, 0, 1);
                for (int instrument = 0; instrument < 6; instrument++) {
                    check.due("chair", x.worth(0, 0, instrument, CHAIR), instrument);
                    check.due("post", x.worth(0, 0, instrument, POST), post);
                    check.due("desk", x.worth(0, 0, instrument, DESK), desk);
                    check.due("double", x.worth(0, 0, instrument, DOUBLE), instrument == post ? 0 : 1);
                }
            }
        }
    }

    /** "LONGS of the other SERVICES of the same WEEK in which it SITS together". */
    private void weekOfOthers() {
        OrchestraYear x = Check.under("count week;pay rest;");
        x.player(0, 0, 1);
        x.player(1, 0, 1);
        int own = Check.serviceFor(x, 0, 14, 0, 8, 1);
        check.due("none", x.worth(own, 0, 0, WEEK), 0);
        x.seat(own);
        check.due("itself does not count", x.worth(own, 0, 0, WEEK), 0);
        int second = Check.serviceFor(x, 0, 20, 23, 3, 1);
        check.due("it does not sit in that yet", x.worth(own, 0, 0, WEEK), 0);
        x.seat(second);
        check.due("it does", x.worth(own, 0, 0, WEEK), 3);
        check.due("the other way", x.worth(second, 0, 0, WEEK), 8);
        x.seat(Check.serviceFor(x, 0, 17, 0, 5, 4));
        check.due("another one sits there", x.worth(own, 0, 0, WEEK), 3);
        check.due("of that one", x.worth(own, 1, 1, WEEK), 5);
        x.seat(Check.serviceFor(x, 0, 13, 0, 4, 1));
        x.seat(Check.serviceFor(x, 0, 21, 8, 4, 1));
        check.due("other weeks do not count", x.worth(own, 0, 0, WEEK), 3);
        x.seat(Check.serviceFor(x, 0, 14, 8, 1, 5));
        check.due("one more", x.worth(own, 0, 0, WEEK), 4);
        check.due("for any instrument", x.worth(own, 0, 5, WEEK), 4);
        x.rise(second);
        check.due("not what is ended", x.worth(own, 0, 0, WEEK), 1);
    }

    private void weekThatIsFull() {
        OrchestraYear x = Check.under("count week;pay rest;");
        x.player(0, 0, 1);
        x.work(1, 1, 1);
        for (int i = 0; i < 21; i++) {
            x.service(0, 7 + i / 3, 8 * (i % 3), 8);
            x.call(i, 0);
            check.due("seat", x.seat(i), 0);
            check.due("week", x.worth(i, 0, 0, WEEK), 8 * i);
            check.due("no rest", x.worth(i, 0, 0, REST), i == 0 ? 99 : 0);
        }
        check.due("of all", x.worth(0, 0, 0, WEEK), 160);
        check.due("hours", x.due(0, 0, 400, 0), 21 * 160);
    }

    /** "the hours from the latest end ... to its beginning: 99 at most, and if there is none". */
    private void restOfHours() {
        for (int hours = -5; hours <= 110; hours++) {
            OrchestraYear x = Check.under("count week;pay rest;");
            x.player(0, 0, 1);
            x.seat(Check.serviceFor(x, 0, 10, 21, 5, 1));
            int begins = 24 * 10 + 21 + 5 + hours;
            x.service(0, begins / 24, begins % 24, 1);
            check.due("rest of " + hours, x.worth(1, 0, 0, REST), hours < 0 ? 99 : Math.min(99, hours));
            check.due("rest of the first one", x.worth(0, 0, 0, REST), 99);
        }
        OrchestraYear y = Check.under("count week;pay rest;");
        y.player(0, 0, 1);
        y.seat(Check.serviceFor(y, 0, 0, 0, 1, 1));
        y.service(0, 400, 23, 8);
        check.due("of the whole year", y.worth(1, 0, 0, REST), 99);
    }

    /** "of other SERVICES in which it SITS and which end when this one begins or ahead of that". */
    private void restFromTheLatestEnd() {
        OrchestraYear x = Check.under("count week;pay rest;");
        x.player(0, 0, 1);
        x.player(1, 0, 1);
        int asked = Check.serviceFor(x, 0, 10, 12, 4, 1);
        int later = Check.serviceFor(x, 0, 10, 16, 1, 1);
        x.seat(later);
        check.due("one behind it gives none", x.worth(asked, 0, 0, REST), 99);
        int near = Check.serviceFor(x, 0, 10, 2, 3, 1);
        x.seat(near);
        check.due("from the near one", x.worth(asked, 0, 0, REST), 7);
        x.seat(Check.serviceFor(x, 0, 9, 2, 3, 1));
        check.due("not from the far one", x.worth(asked, 0, 0, REST), 7);
        x.seat(Check.serviceFor(x, 0, 10, 8, 3, 4));
        check.due("nor from another one's", x.worth(asked, 0, 0, REST), 7);
        check.due("of that one", x.worth(asked, 1, 1, REST), 1);
        int meets = Check.serviceFor(x, 0, 10, 10, 3, 1);
        x.seat(meets);
        check.due("one that ends behind its beginning", x.worth(asked, 0, 0, REST), 7);
        x.rise(meets);
        x.seat(asked);
        check.due("itself does not count", x.worth(asked, 0, 0, REST), 7);
        check.due("but for the later one", x.worth(later, 0, 0, REST), 0);
        x.rise(asked);
        check.due("from the near one again", x.worth(later, 0, 0, REST), 11);
        x.rise(near);
        check.due("from the far one", x.worth(later, 0, 0, REST), 35);
    }

    private void value(String expression, long want) {
        OrchestraYear x = Check.under("bar 0;count " + expression + ";pay (" + expression + ");");
        x.service(0, 0, 0, 1);
        x.player(0, 0, 1);
        check.due("value of " + expression, x.worth(0, 0, 0, 0), want);
        check.due("value of (" + expression + ")", x.worth(0, 0, 0, 1), want);
    }

    /** "An E is a long (they wrap)". */
    private void longsWrap() {
        value("65536*32768", 1L << 31);
        value("65536*65536", 1L << 32);
        value(LEAST, Long.MIN_VALUE);
        value(GREATEST, Long.MAX_VALUE);
        value(GREATEST + "+1", Long.MIN_VALUE);
        value(LEAST + "-1", Long.MAX_VALUE);
        value("-(" + LEAST + ")", Long.MIN_VALUE);
        value("0-" + LEAST, Long.MIN_VALUE);
        value("-" + GREATEST, -Long.MAX_VALUE);
        value(LEAST + "*2", 0);
        value(LEAST + "+" + LEAST, 0);
        value(GREATEST + "*" + GREATEST, 1);
        value(GREATEST + "+1<0", 1);
        value(LEAST + "<" + GREATEST, 1);
        value(GREATEST + "<" + LEAST, 0);
        value(GREATEST + "=" + LEAST + "-1", 1);
        value("65536*65536=0", 0);
        value("65536*65536<1", 0);
        value("0-65536*65536*65536*16384", OrchestraYear.NO);
    }

    /** "of or, and, not, <, = 1 or 0 (what is not 0 is true)". */
    private void whatIsNot0IsTrue() {
        String[] truths = {"1", "2", "99999", "-1", "-2", "65536*65536", GREATEST, LEAST};
        String[] falses = {"0", "1-1", "-0", LEAST + "*2", "65536*65536*65536*65536"};
        for (String yes : truths) {
            value("not " + yes, 0);
            value("not not " + yes, 1);
            for (String other : truths) {
                value(yes + " and " + other, 1);
                value(yes + " or " + other, 1);
            }
            for (String no : falses) {
                value(yes + " and " + no, 0);
                value(no + " and " + yes, 0);
                value(yes + " or " + no, 1);
                value(no + " or " + yes, 1);
            }
        }
        for (String no : falses) {
            value("not " + no, 1);
            value("not not " + no, 0);
            value(no + " or " + no, 0);
            value(no + " and " + no, 0);
        }
        value("5", 5);
        value("(5)", 5);
        value("- 5", -5);
    }

    /** "TEXT 0, at first, in force from DAY 0 on, is: count long ; pay long * 10 ;". */
    private void text0() {
        for (int length = 1; length <= 8; length++) {
            for (int day : new int[] {0, 1, 400}) {
                OrchestraYear x = new OrchestraYear();
                x.player(0, 0, 1);
                x.service(0, day, 0, length);
                check.due("in force", x.inForce(day), 0);
                check.due("count", x.worth(0, 0, 0, 0), length);
                check.due("pay", x.worth(0, 0, 0, 1), 10 * length);
                check.due("no bar", x.worth(0, 0, 0, 2), OrchestraYear.NO);
                check.due("nothing bars", x.may(0, 0, 0), 0);
            }
        }
    }

    private static OrchestraYear withTexts(int texts) {
        OrchestraYear x = new OrchestraYear();
        for (int i = 1; i < texts; i++) {
            Check.text(x, "count 1;pay 1;");
        }
        return x;
    }

    private void inForce(OrchestraYear x, int... daysAndTexts) {
        for (int i = 0; i < daysAndTexts.length; i += 2) {
            check.due("in force on " + daysAndTexts[i], x.inForce(daysAndTexts[i]), daysAndTexts[i + 1]);
        }
    }

    /** "of TEXTS that were told to be from that DAY or an earlier one, the one of which that was told last". */
    private void toldInTurn() {
        OrchestraYear x = withTexts(4);
        inForce(x, 0, 0, 400, 0);
        x.force(2, 400);
        inForce(x, 0, 0, 399, 0, 400, 2);
        x.force(1, 0);
        inForce(x, 0, 1, 399, 1, 400, 1);
        x.force(3, 200);
        inForce(x, 0, 1, 199, 1, 200, 3, 201, 3, 400, 3);
        check.due("told of none such", x.force(4, 0), OrchestraYear.BAD);
        inForce(x, 0, 1, 199, 1, 200, 3, 400, 3);
    }

    /** Promise 14: "of one that was told ahead this counts in place of that". */
    private void toldAnew() {
        OrchestraYear x = withTexts(3);
        x.force(1, 100);
        x.force(2, 100);
        inForce(x, 99, 0, 100, 2);
        x.force(1, 100);
        inForce(x, 99, 0, 100, 1);
        x.force(1, 101);
        inForce(x, 99, 0, 100, 2, 101, 1);
        x.force(2, 101);
        inForce(x, 100, 0, 101, 2);
        x.force(2, 99);
        inForce(x, 98, 0, 99, 2, 100, 2, 101, 2);
        x.force(2, 400);
        inForce(x, 99, 0, 100, 0, 101, 1, 399, 1, 400, 2);
    }

    /** "TEXT 0, if there is none": also if TEXT 0 itself is told from a later DAY. */
    private void text0IfThereIsNone() {
        OrchestraYear x = withTexts(2);
        x.force(0, 400);
        inForce(x, 0, 0, 399, 0, 400, 0);
        x.force(1, 200);
        inForce(x, 0, 0, 199, 0, 200, 1, 400, 1);
        x.force(0, 300);
        inForce(x, 0, 0, 199, 0, 200, 1, 299, 1, 300, 0, 400, 0);
        x.force(0, 0);
        inForce(x, 0, 0, 200, 0, 400, 0);
        x.force(1, 0);
        inForce(x, 0, 1, 200, 1, 400, 1);
    }

    private void tenTexts() {
        OrchestraYear up = withTexts(10);
        OrchestraYear down = withTexts(10);
        for (int i = 1; i < 10; i++) {
            check.due("force", up.force(i, 40 * i), 1);
            check.due("force", down.force(10 - i, 40 * (10 - i)), 1);
        }
        for (int day = 0; day <= 400; day++) {
            check.due("the latest of day " + day, up.inForce(day), Math.min(9, day / 40));
            check.due("the earliest of day " + day, down.inForce(day), day < 40 ? 0 : 1);
        }
    }
}
