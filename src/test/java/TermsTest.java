/** The terms ahead of block 1: works and scores, players and leaves, services and chairs; promises 2 to 11. */
public final class TermsTest {
    private static final int BAD = OrchestraYear.BAD;
    private static final int STATE = OrchestraYear.STATE;
    private static final int FULL = OrchestraYear.FULL;
    private static final int SCHOOL = 4;

    private final Check check;

    private TermsTest(Check check) {
        this.check = check;
    }

    public static void main(String[] args) {
        Check check = new Check("TermsTest");
        TermsTest test = new TermsTest(check);
        test.numberedAsTheyCome();
        test.needsAsOneNumber();
        test.scoreIsOursAtFirst();
        test.hiredBothDaysCount();
        test.scoreIsToldAnew();
        test.leavesBothDaysCount();
        test.sixLeaves();
        test.postInDoublesDoesNotMatter();
        test.greatestNeedOfItsWorks();
        test.needOfASchool();
        test.chairsOfInstrument0First();
        test.twelveChairs();
        test.schoolsHaveSixChairs();
        test.fiveWorks();
        test.meet();
        test.meetAtTheEndsOfTheYear();
        test.weeks();
        check.finish();
    }

    /** "numbered from 0 as they come": refused ones and those of another sort take no number. */
    private void numberedAsTheyCome() {
        OrchestraYear x = new OrchestraYear();
        for (int i = 0; i < 10; i++) {
            check.due("work", x.work(1 + i, i, 0), i);
            check.due("no work", x.work(0, 0, 0), BAD);
            check.due("player", x.player(i % 6, 0, 1), i);
            check.due("no player", x.player(0, 0, 0), BAD);
            check.due("service", x.service(i % 6, i, 0, 1), i);
            check.due("no service", x.service(0, 0, 0, 0), BAD);
            if (i > 0) {
                check.due("no text", Check.text(x, "pay"), -10);
                check.due("text", Check.text(x, "count " + i + ";pay 0;"), i);
            }
        }
        for (int i = 0; i < 10; i++) {
            check.due("its minutes", x.workTold(i, 0), 1 + i);
            check.due("its post", x.playerTold(i, 0), i % 6);
            check.due("its day", x.serviceTold(i, 1), i);
            x.force(i, i);
            check.due("its count", x.worth(i, 0, 0, 0), i == 0 ? 1 : i);
        }
    }

    /** "for each INSTRUMENT a NEED 0 .. 3 (told as one number, that of INSTRUMENT i times 4 to the i)". */
    private void needsAsOneNumber() {
        int power = 1;
        for (int instrument = 0; instrument < 6; instrument++) {
            for (int need = 0; need <= 3; need++) {
                OrchestraYear x = new OrchestraYear();
                for (int i = 0; i < 6; i++) {
                    x.player(i, 0, 1);
                }
                int service = Check.serviceFor(x, 0, 0, 0, 1, need * power);
                check.due("needs", x.workTold(0, 2), need * power);
                check.due("chairs", x.serviceTold(service, 5), need);
                check.due("the player of that post", x.chair(service, 0, false), need == 0 ? BAD : instrument);
                check.due("gaps", x.gaps(service), Math.max(0, need - 1));
            }
            power *= 4;
        }
    }

    private void plays(OrchestraYear x, String what, int from, int to) {
        for (int day = 0; day <= 400; day++) {
            check.due(what + ", day " + day, x.played(0, day), day >= from && day <= to ? 1 : 0);
        }
    }

    /** "Its SCORE is OURS (at first)". */
    private void scoreIsOursAtFirst() {
        OrchestraYear x = new OrchestraYear();
        x.work(1, 1, 1);
        check.due("state", x.workTold(0, 3), 0);
        check.due("from", x.workTold(0, 4), -1);
        check.due("to", x.workTold(0, 5), -1);
        plays(x, "ours", 0, 400);
    }

    /** "HIRED then (both days count)". */
    private void hiredBothDaysCount() {
        int[][] spans = {{0, 0}, {0, 1}, {0, 400}, {1, 399}, {200, 200}, {399, 400}, {400, 400}};
        for (int[] span : spans) {
            OrchestraYear x = new OrchestraYear();
            x.work(1, 1, 1);
            check.due("hire", x.score(0, 1, span[0], span[1]), 1);
            check.due("from", x.workTold(0, 4), span[0]);
            check.due("to", x.workTold(0, 5), span[1]);
            plays(x, "hired " + span[0] + " .. " + span[1], span[0], span[1]);
        }
    }

    private void scoreIsToldAnew() {
        OrchestraYear x = new OrchestraYear();
        x.work(1, 1, 1);
        x.work(1, 1, 1);
        int[][] told = {{1, 10, 20}, {1, 15, 30}, {2, 10, 20}, {1, 5, 5}, {0, 10, 20}, {2, 0, 0}, {0, 0, 0}};
        for (int[] t : told) {
            check.due("score", x.score(0, t[0], t[1], t[2]), 1);
            check.due("state", x.workTold(0, 3), t[0]);
            check.due("from", x.workTold(0, 4), t[0] == 1 ? t[1] : -1);
            check.due("to", x.workTold(0, 5), t[0] == 1 ? t[2] : -1);
            for (int day : new int[] {0, 4, 5, 6, 9, 10, 14, 15, 20, 21, 30, 31, 400}) {
                boolean can = t[0] == 0 || t[0] == 1 && day >= t[1] && day <= t[2];
                check.due("played on " + day, x.played(0, day), can ? 1 : 0);
            }
            check.due("the other one is ours still", x.workTold(1, 3), 0);
        }
    }

    /** "LEAVES from a DAY to another one": it has a LEAVE on both. */
    private void leavesBothDaysCount() {
        int[][] spans = {{0, 0}, {0, 1}, {0, 400}, {200, 202}, {399, 400}, {400, 400}};
        for (int[] span : spans) {
            for (int day : new int[] {0, 1, 2, 199, 200, 202, 203, 398, 399, 400}) {
                OrchestraYear x = new OrchestraYear();
                x.player(0, 0, 1);
                x.service(0, day, 0, 1);
                x.leave(0, span[0], span[1]);
                boolean away = day >= span[0] && day <= span[1];
                String what = "leave " + span[0] + " .. " + span[1] + ", day " + day;
                check.due(what, x.may(0, 0, 0), away ? 2 : 0);
                x.put(0, 4, day);
                check.due(what + ", truth", x.forge(0, 3, 0), away ? 1 : 0);
            }
        }
    }

    /** "(6 at most)": each of them counts, of each player. */
    private void sixLeaves() {
        OrchestraYear x = new OrchestraYear();
        x.player(0, 0, 1);
        x.player(0, 0, 1);
        for (int player = 0; player < 2; player++) {
            for (int i = 1; i <= 6; i++) {
                check.due("leave", x.leave(player, 20 * i + player, 20 * i + player), i);
                check.due("leaves", x.playerTold(player, 3), i);
            }
            check.due("a 7th", x.leave(player, 0, 400), FULL);
            check.due("six", x.playerTold(player, 3), 6);
        }
        for (int i = 1; i <= 6; i++) {
            for (int day = 20 * i - 1; day <= 20 * i + 2; day++) {
                x.put(0, 4, day);
                check.due("0 on day " + day, x.forge(0, 3, 0), day == 20 * i ? 1 : 0);
                check.due("1 on day " + day, x.forge(0, 3, 1), day == 20 * i + 1 ? 1 : 0);
            }
        }
    }

    /** Promise 4: "(Its POST in DOUBLES does not matter.)", and each bit of DOUBLES is an instrument. */
    private void postInDoublesDoesNotMatter() {
        for (int post = 0; post < 6; post++) {
            for (int doubles = 0; doubles < 64; doubles++) {
                OrchestraYear x = Check.under("count double;pay post;");
                x.player(post, doubles, 1);
                x.service(0, 0, 0, 1);
                check.due("doubles as told", x.playerTold(0, 1), doubles);
                for (int i = 0; i < 6; i++) {
                    check.due("may", x.may(0, 0, i), i == post || (doubles & 1 << i) != 0 ? 0 : 1);
                    check.due("double", x.worth(0, 0, i, 0), i == post ? 0 : 1);
                }
                check.due("post", x.worth(0, 0, 0, 1), post);
            }
        }
    }

    private int chairsOf(int kind, int... needs) {
        OrchestraYear x = new OrchestraYear();
        x.service(kind, 0, 0, 1);
        for (int i = 0; i < needs.length; i++) {
            x.work(1, 0, needs[i]);
            check.due("call", x.call(0, i), i + 1);
        }
        return x.serviceTold(0, 5);
    }

    /** "The NEED of a SERVICE for an INSTRUMENT is the greatest one of its WORKS". */
    private void greatestNeedOfItsWorks() {
        for (int kind = 0; kind < 6; kind++) {
            check.due("without works", chairsOf(kind), 0);
            if (kind == SCHOOL) {
                continue;
            }
            for (int one = 0; one <= 3; one++) {
                for (int other = 0; other <= 3; other++) {
                    check.due("of one instrument", chairsOf(kind, 16 * one, 16 * other), Math.max(one, other));
                    check.due("of two", chairsOf(kind, one, 1024 * other), one + other);
                    check.due("of three works", chairsOf(kind, one, 0, other), Math.max(one, other));
                }
            }
        }
    }

    /** "of a SCHOOL one at most". */
    private void needOfASchool() {
        for (int one = 0; one <= 3; one++) {
            for (int other = 0; other <= 3; other++) {
                check.due("of one instrument", chairsOf(SCHOOL, 16 * one, 16 * other), Math.min(1, one + other));
                check.due("of two", chairsOf(SCHOOL, one, 1024 * other), Math.min(1, one) + Math.min(1, other));
            }
        }
    }

    /** "those of INSTRUMENT 0 first, and so on; numbered from 0". */
    private void chairsOfInstrument0First() {
        int[] needs = {2, 0, 1, 3, 1, 2};
        int[] posts = {5, 5, 4, 3, 3, 3, 2, 0, 0, 1};
        int[] want = {7, 8, 6, 3, 4, 5, 2, 0, 1};
        OrchestraYear x = new OrchestraYear();
        for (int post : posts) {
            x.player(post, 0, 1);
        }
        int told = 0;
        for (int i = 5; i >= 0; i--) {
            told = 4 * told + needs[i];
        }
        int service = Check.serviceFor(x, 0, 0, 0, 1, told);
        check.due("seat", x.seat(service), 0);
        for (int chair = 0; chair < want.length; chair++) {
            check.due("chair " + chair, x.chair(service, chair, false), want[chair]);
            check.due("told chair " + chair, x.chair(service, chair, true), want[chair]);
        }
        check.due("no chair behind", x.chair(service, want.length, false), BAD);
    }

    /** "12 at most", and promise 7's "STATE: it would have more than 12 CHAIRS". */
    private void twelveChairs() {
        for (int kind = 0; kind < 6; kind++) {
            if (kind == SCHOOL) {
                continue;
            }
            check.due("11 and 1", chairsOf(kind, 63 + 128, 64 + 128), 12);
            check.due("12 and 12 of the same", chairsOf(kind, 255, 255), 12);
            check.due("12 of all", chairsOf(kind, 2 * (1 + 4 + 16 + 64 + 256 + 1024)), 12);
            OrchestraYear x = new OrchestraYear();
            x.service(kind, 0, 0, 1);
            x.service(kind, 1, 0, 1);
            int[] needs = {4095, 63 + 192 + 256, 255, 256, 15 + 64, 3 * 256};
            for (int n : needs) {
                x.work(1, 0, n);
            }
            check.due("18 at once", x.call(0, 0), STATE);
            check.due("13 at once", x.call(0, 1), STATE);
            check.due("no work came", x.serviceTold(0, 4), 0);
            check.due("no chair came", x.serviceTold(0, 5), 0);
            check.due("12", x.call(0, 2), 1);
            check.due("and one", x.call(0, 3), STATE);
            check.due("no more than are there", x.call(0, 4), 2);
            check.due("still 12", x.serviceTold(0, 5), 12);
            check.due("7", x.call(1, 4), 1);
            check.due("10", x.call(1, 5), 2);
            check.due("15", x.call(1, 2), STATE);
            check.due("still 10", x.serviceTold(1, 5), 10);
        }
    }

    private void schoolsHaveSixChairs() {
        check.due("of what needs 18", chairsOf(SCHOOL, 4095), 6);
        check.due("of more", chairsOf(SCHOOL, 4095, 4095, 255, 1, 0), 6);
    }

    /** "WORKS (5 at most, unlike ones)". */
    private void fiveWorks() {
        for (int kind = 0; kind < 6; kind++) {
            OrchestraYear x = new OrchestraYear();
            x.service(kind, 0, 0, 1);
            for (int i = 0; i < 7; i++) {
                x.work(1, 0, 0);
            }
            for (int i = 0; i < 5; i++) {
                check.due("call", x.call(0, 6 - i), i + 1);
                check.due("the same again", x.call(0, 6 - i), STATE);
                check.due("works", x.serviceTold(0, 4), i + 1);
            }
            check.due("a sixth", x.call(0, 0), FULL);
            check.due("the first one again", x.call(0, 6), STATE);
            for (int k = 0; k < 7; k++) {
                check.due("its work " + k, x.serviceTold(0, 8 + k), k < 5 ? 6 - k : -1);
            }
            check.due("works", x.serviceTold(0, 4), 5);
        }
    }

    private int mayBeside(int day, int hour, int length, int begins, int otherLength) {
        OrchestraYear x = new OrchestraYear();
        x.player(0, 0, 1);
        x.seat(Check.serviceFor(x, 0, day, hour, length, 1));
        x.service(0, begins / 24, begins % 24, otherLength);
        return x.may(1, 0, 0);
    }

    /** "two MEET if neither ends when the other one begins or ahead of that": every way two can lie, over midnight. */
    private void meet() {
        for (int length = 1; length <= 8; length++) {
            for (int other = 1; other <= 8; other++) {
                for (int later = -9; later <= 9; later++) {
                    boolean apart = later >= length || later + other <= 0;
                    check.due(length + " and " + other + ", " + later + " hours later",
                        mayBeside(10, 20, length, 24 * 10 + 20 + later, other), apart ? 0 : 3);
                }
            }
        }
    }

    private void meetAtTheEndsOfTheYear() {
        check.due("the first hour", mayBeside(0, 0, 1, 1, 1), 0);
        check.due("the first two hours", mayBeside(0, 0, 2, 1, 1), 3);
        check.due("behind the last day", mayBeside(400, 23, 8, 24 * 400 + 22, 8), 3);
        check.due("ends as it begins", mayBeside(400, 23, 8, 24 * 400 + 22, 1), 0);
        check.due("from the day ahead", mayBeside(399, 23, 8, 24 * 400 + 6, 1), 3);
        check.due("from the day ahead", mayBeside(399, 23, 8, 24 * 400 + 7, 1), 0);
        check.due("the same hour of another day", mayBeside(399, 12, 8, 24 * 400 + 12, 8), 0);
        check.due("not on the next day", mayBeside(0, 0, 8, 24, 8), 0);
    }

    /** "the WEEK of a DAY is it by 7 (cut)". */
    private void weeks() {
        int[] days = {0, 1, 6, 7, 8, 13, 14, 20, 21, 391, 392, 398, 399, 400};
        int[] weeks = {0, 0, 0, 1, 1, 1, 2, 2, 3, 55, 56, 56, 57, 57};
        for (int i = 0; i < days.length; i++) {
            for (int j = 0; j < days.length; j++) {
                OrchestraYear x = Check.under("count week;pay 0;");
                x.player(0, 0, 1);
                x.seat(Check.serviceFor(x, 0, days[i], 3, 5, 1));
                x.service(0, days[j], 12, 2);
                check.due("days " + days[i] + ", " + days[j], x.worth(1, 0, 0, 0), weeks[i] == weeks[j] ? 5 : 0);
            }
        }
    }
}
