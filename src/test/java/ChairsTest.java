/** Promises 16 may, 17 worth. */
public final class ChairsTest {
    public static void main(String[] args) {
        Check check = new Check("ChairsTest");
        mayBeBad(check);
        mayHindered(check);
        mayMeeting(check);
        mayBarred(check);
        worths(check);
        names(check);
        weekAndRest(check);
        expressions(check);
        deepExpressions(check);
        longTexts(check);
        check.finish();
    }

    private static void mayBeBad(Check check) {
        OrchestraYear x = new OrchestraYear();
        x.service(0, 0, 0, 1);
        x.player(0, 0, 1);
        check.due("may(0, 0, 0)", x.may(0, 0, 0), 0);
        int[][] bad = {{1, 0, 0}, {-1, 0, 0}, {0, 1, 0}, {0, -1, 0}, {0, 0, 6}, {0, 0, -1}};
        for (int[] b : bad) {
            check.due("may of none such", x.may(b[0], b[1], b[2]), OrchestraYear.BAD);
            check.due("worth of none such", x.worth(b[0], b[1], b[2], 0), OrchestraYear.NO);
        }
    }

    private static void mayHindered(Check check) {
        OrchestraYear x = Check.under("bar 1;count 1;pay 1;");
        x.player(2, 8 + 32, 1);
        x.service(0, 5, 0, 1);
        int[] plays = {1, 1, 4, 4, 1, 4};
        for (int i = 0; i < 6; i++) {
            check.due("instrument " + i, x.may(0, 0, i), plays[i]);
        }
        x.leave(0, 5, 6);
        check.due("a leave goes ahead of a bar", x.may(0, 0, 2), 2);
        check.due("the instrument goes ahead of a leave", x.may(0, 0, 0), 1);
    }

    private static void mayMeeting(Check check) {
        OrchestraYear x = new OrchestraYear();
        x.player(0, 0, 1);
        int sits = Check.serviceFor(x, 0, 10, 22, 4, 1);
        x.seat(sits);
        check.due("not with itself", x.may(sits, 0, 0), 0);
        check.due("ends as it begins", x.may(x.service(0, 10, 20, 2), 0, 0), 0);
        check.due("ends an hour later", x.may(x.service(0, 10, 20, 3), 0, 0), 3);
        check.due("the next day, an hour ahead of its end", x.may(x.service(0, 11, 1, 1), 0, 0), 3);
        check.due("begins as it ends", x.may(x.service(0, 11, 2, 1), 0, 0), 0);
        check.due("around it", x.may(x.service(0, 10, 21, 8), 0, 0), 3);
        check.due("within it", x.may(x.service(0, 10, 23, 1), 0, 0), 3);
        check.due("the same hours", x.may(x.service(0, 10, 22, 4), 0, 0), 3);
        x.leave(0, 10, 10);
        check.due("a leave goes ahead", x.may(3, 0, 0), 3);
        check.due("a leave goes ahead", x.may(2, 0, 0), 2);
        x.rise(sits);
        check.due("it sits there no more", x.may(3, 0, 0), 0);
    }

    private static void mayBarred(Check check) {
        OrchestraYear x = Check.under("bar desk = 9; bar desk - 2; bar 1; bar 0;count 1;pay 1;");
        x.service(0, 0, 0, 1);
        x.player(0, 0, 9);
        x.player(0, 0, 2);
        x.player(0, 0, 1);
        check.due("the first bar", x.may(0, 0, 0), 4);
        check.due("the third one", x.may(0, 1, 0), 6);
        check.due("the second one, below 0", x.may(0, 2, 0), 5);
        OrchestraYear y = Check.under("bar 0;bar 0;bar 0;bar 0;bar 0;bar 0;bar 0;bar hour = 3;count 1;pay 1;");
        y.player(0, 0, 1);
        y.service(0, 0, 3, 1);
        y.service(0, 0, 4, 1);
        check.due("the eighth one", y.may(0, 0, 0), 11);
        check.due("none", y.may(1, 0, 0), 0);
        y.force(1, 1);
        check.due("the text in force on its day", y.may(0, 0, 0), 0);
    }

    private static void worths(Check check) {
        OrchestraYear x = Check.under("bar 7; bar - 8; count 5; pay 6;");
        x.service(3, 0, 0, 2);
        x.player(0, 0, 1);
        check.due("count", x.worth(0, 0, 0, 0), 5);
        check.due("pay", x.worth(0, 0, 5, 1), 6);
        check.due("bar 0", x.worth(0, 0, 0, 2), 7);
        check.due("bar 1", x.worth(0, 0, 0, 3), -8);
        check.due("bar 2", x.worth(0, 0, 0, 4), OrchestraYear.NO);
        check.due("what -1", x.worth(0, 0, 0, -1), OrchestraYear.NO);
        check.due("what MAX", x.worth(0, 0, 0, Integer.MAX_VALUE), OrchestraYear.NO);
        check.due("what MIN", x.worth(0, 0, 0, Integer.MIN_VALUE), OrchestraYear.NO);
        x.force(1, 1);
        check.due("count of text 0", x.worth(0, 0, 0, 0), 2);
        check.due("pay of text 0", x.worth(0, 0, 0, 1), 20);
        check.due("no bars in text 0", x.worth(0, 0, 0, 2), OrchestraYear.NO);
    }

    private static void names(Check check) {
        String[] names = {"kind", "weekday", "hour", "long", "chair", "post", "double", "desk", "week", "rest"};
        long[] other = {5, 5, 17, 8, 3, 2, 1, 7, 0, 99};
        long[] own = {5, 5, 17, 8, 2, 2, 0, 7, 0, 99};
        for (int i = 0; i < names.length; i++) {
            OrchestraYear x = Check.under("count " + names[i] + ";pay 0 + " + names[i] + " * 1;");
            x.service(5, 19, 17, 8);
            x.player(2, 8, 7);
            check.due(names[i] + " on a double", x.worth(0, 0, 3, 0), other[i]);
            check.due(names[i] + " on its post", x.worth(0, 0, 2, 1), own[i]);
        }
    }

    private static void weekAndRest(Check check) {
        OrchestraYear x = Check.under("count week; pay rest;");
        x.player(0, 0, 1);
        x.player(1, 0, 1);
        int one = Check.serviceFor(x, 0, 7, 10, 3, 1);
        int two = Check.serviceFor(x, 0, 13, 20, 2, 1);
        int far = Check.serviceFor(x, 0, 6, 20, 8, 1);
        check.due("nothing is seated", x.worth(two, 0, 0, 0), 0);
        check.due("no rest", x.worth(two, 0, 0, 1), 99);
        x.seat(one);
        x.seat(two);
        x.seat(far);
        check.due("the other one of its week", x.worth(two, 0, 0, 0), 3);
        check.due("of the week of the first one", x.worth(one, 0, 0, 0), 2);
        check.due("alone in its week", x.worth(far, 0, 0, 0), 0);
        check.due("rest from the week ahead", x.worth(one, 0, 0, 1), 6);
        check.due("no rest ahead of the first one", x.worth(far, 0, 0, 1), 99);
        check.due("99 at most", x.worth(two, 0, 0, 1), 99);
        int next = x.service(0, 13, 22, 1);
        check.due("both of its week", x.worth(next, 0, 0, 0), 5);
        check.due("rest of no hour", x.worth(next, 0, 0, 1), 0);
        int meets = x.service(0, 13, 21, 8);
        check.due("one that meets it gives no rest, but the one ahead", x.worth(meets, 0, 0, 1), 99);
        check.due("one that meets it counts for the week", x.worth(meets, 0, 0, 0), 5);
        int soon = x.service(0, 11, 15, 1);
        check.due("98 hours", x.worth(soon, 0, 0, 1), 98);
        check.due("of another player", x.worth(soon, 1, 1, 1), 99);
        check.due("of another player", x.worth(soon, 1, 1, 0), 0);
        x.rise(one);
        check.due("it sits there no more", x.worth(two, 0, 0, 0), 0);
    }

    private static void value(Check check, String expression, long want) {
        OrchestraYear x = Check.under("count " + expression + ";pay 0;");
        x.service(0, 0, 0, 1);
        x.player(0, 0, 1);
        check.due("value of " + expression, x.worth(0, 0, 0, 0), want);
    }

    private static void deepExpressions(Check check) {
        String six = "0 or 7 and 3<2+2*(".repeat(6);
        value(check, six + "0" + ")".repeat(6), 0);
        value(check, six + "1" + ")".repeat(6), 1);
        value(check, "9-(8-(7-(6-(5-(4-(3 - 1))))))", 9 - (8 - (7 - (6 - (5 - (4 - 2))))));
    }

    /** Texts as long as can be, one after another and behind faulty ones. */
    private static void longTexts(Check check) {
        OrchestraYear x = new OrchestraYear();
        x.service(0, 0, 0, 1);
        x.player(0, 0, 1);
        for (int i = 1; i < 10; i++) {
            Check.text(x, "count " + "1*(".repeat(6) + "1+1");
            String text = "bar 0;".repeat(8) + "count " + i + "+1".repeat(60) + ";pay " + i + "-1".repeat(55) + ";     ";
            check.due("bytes", Check.feed(x, text + " ".repeat(300 - text.length())), 300);
            check.due("text " + i, x.text(), i);
            x.force(i, 0);
            check.due("its count", x.worth(0, 0, 0, 0), i + 60);
            check.due("its pay", x.worth(0, 0, 0, 1), i - 55);
            check.due("its last bar", x.worth(0, 0, 0, 9), 0);
            check.due("no more", x.worth(0, 0, 0, 10), OrchestraYear.NO);
        }
        x.force(1, 0);
        check.due("the first one is as it was", x.worth(0, 0, 0, 0), 61);
    }

    private static void expressions(Check check) {
        value(check, "7", 7);
        value(check, "00012", 12);
        value(check, "1 - 2 - 3", -4);
        value(check, "1 - (2 - 3)", 2);
        value(check, "2 + 3 * 4", 14);
        value(check, "(2 + 3) * 4", 20);
        value(check, "- 2 * 3 + 1", -5);
        value(check, "- - 2", 2);
        value(check, "2 - - 2", 4);
        value(check, "5 or 0", 1);
        value(check, "0 or 0", 0);
        value(check, "0 or - 3", 1);
        value(check, "5 and 7", 1);
        value(check, "5 and 0", 0);
        value(check, "not 5", 0);
        value(check, "not 0", 1);
        value(check, "not not 5", 1);
        value(check, "1 < 2", 1);
        value(check, "2 < 2", 0);
        value(check, "- 1 < 0", 1);
        value(check, "2 = 2", 1);
        value(check, "2 = 3", 0);
        value(check, "1 + 1 = 2", 1);
        value(check, "not 1 = 0", 1);
        value(check, "(not 1) = 0", 1);
        value(check, "not 3 = 0", 1);
        value(check, "(not 3) = 1", 0);
        value(check, "1 or 0 and 0", 1);
        value(check, "(1 or 0) and 0", 0);
        value(check, "not 0 and 0", 0);
        value(check, "not (0 and 0)", 1);
        value(check, "not 1 or 1", 1);
        value(check, "(2 < 3) + (3 < 4)", 2);
        value(check, "99999*99999*99999*99999", 99999L * 99999 * 99999 * 99999);
        value(check, "(1<2 or 3) * 4 - (5 = 5 and 1 = 0) * 9", 4);
    }
}
