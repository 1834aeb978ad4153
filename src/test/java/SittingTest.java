/** Block 2: who MAY sit, THE SEATING, what SEATED keeps, HOURS and PAY; promises 16 and 18 to 22. */
public final class SittingTest {
    private static final int NONE = OrchestraYear.NONE;
    private static final int BAD = OrchestraYear.BAD;
    private static final int STATE = OrchestraYear.STATE;
    private static final String LEAST = "32768*32768*32768*32768*8";

    private final Check check;

    private SittingTest(Check check) {
        this.check = check;
    }

    public static void main(String[] args) {
        Check check = new Check("SittingTest");
        SittingTest test = new SittingTest(check);
        test.theLeastThatHolds();
        test.theFirstBarThatHolds();
        test.aBarHoldsThatIsNot0();
        test.theTextOfItsDay();
        test.noChairs();
        test.noPlayers();
        test.oneChairAtMost();
        test.tenPlayersForTwelveChairs();
        test.movedAlong();
        test.gapsMoveBehind();
        test.allSmallSeatings();
        test.manySeatings();
        test.notSeated();
        test.whatIsToldLater();
        test.theOneAheadDoesNotMatter();
        test.othersThatMeet();
        test.riseAndSeat();
        test.gapsInAll();
        test.instrumentOfItsChair();
        test.daysOfDue();
        test.nothingDue();
        test.halvesAreCut();
        test.dueWraps();
        check.finish();
    }

    /** Promise 16: "the least that holds", of every way in which some hold. */
    private void theLeastThatHolds() {
        for (int held = 0; held < 16; held++) {
            boolean lacks = (held & 1) != 0;
            boolean away = (held & 2) != 0;
            boolean meets = (held & 4) != 0;
            boolean barred = (held & 8) != 0;
            OrchestraYear x = Check.under("bar 0;bar hour=" + (barred ? 10 : 11) + ";count 1;pay 1;");
            x.player(0, 2, 1);
            int sits = Check.serviceFor(x, 0, 9, 9, 8, 1);
            int asked = x.service(0, 9, 10, 1);
            if (meets) {
                x.seat(sits);
            }
            if (away) {
                x.leave(0, 9, 9);
            }
            int want = lacks ? 1 : away ? 2 : meets ? 3 : barred ? 5 : 0;
            check.due("may, held " + held, x.may(asked, 0, lacks ? 2 : 1), want);
        }
    }

    /** "4 + k: bar k of the TEXT holds, the first one". */
    private void theFirstBarThatHolds() {
        StringBuilder text = new StringBuilder();
        for (int k = 0; k < 8; k++) {
            text.append("bar ").append(8 - k).append("<desk;");
        }
        OrchestraYear x = Check.under(text + "count 1;pay 1;");
        x.service(0, 0, 0, 1);
        for (int desk = 1; desk <= 9; desk++) {
            x.player(0, 0, desk);
            check.due("desk " + desk, x.may(0, desk - 1, 0), desk == 1 ? 0 : 4 + 9 - desk);
        }
        OrchestraYear y = Check.under("bar 1<desk;bar 2<desk;bar 3<desk;count 1;pay 1;");
        y.service(0, 0, 0, 1);
        for (int desk = 1; desk <= 4; desk++) {
            y.player(0, 0, desk);
            check.due("desk " + desk, y.may(0, desk - 1, 0), desk == 1 ? 0 : 4);
        }
    }

    /** "no bar ... holds (is not 0)". */
    private void aBarHoldsThatIsNot0() {
        String[] holds = {"1", "2", "-1", "65536*65536", LEAST, "not 0"};
        String[] not = {"0", "-0", LEAST + "*2", "not 7", "1-1"};
        for (String bar : holds) {
            check.due("bar " + bar, mayUnder("bar " + bar + ";count 1;pay 1;"), 4);
        }
        for (String bar : not) {
            check.due("bar " + bar, mayUnder("bar " + bar + ";count 1;pay 1;"), 0);
        }
        check.due("count and pay bar nothing", mayUnder("count 1;pay 1;"), 0);
    }

    private static int mayUnder(String text) {
        OrchestraYear x = Check.under(text);
        x.player(0, 0, 1);
        x.service(0, 0, 0, 1);
        return x.may(0, 0, 0);
    }

    /** "the TEXT IN FORCE on the DAY" is that of the service's DAY. */
    private void theTextOfItsDay() {
        OrchestraYear x = new OrchestraYear();
        x.player(0, 0, 1);
        Check.text(x, "bar 1;count 100;pay 200;");
        x.force(1, 50);
        int[] days = {0, 49, 50, 51, 400};
        for (int i = 0; i < days.length; i++) {
            x.service(0, days[i], 0, 1);
            check.due("day " + days[i], x.may(i, 0, 0), days[i] < 50 ? 0 : 4);
            check.due("count of day " + days[i], x.worth(i, 0, 0, 0), days[i] < 50 ? 1 : 100);
            check.due("pay of day " + days[i], x.worth(i, 0, 0, 1), days[i] < 50 ? 10 : 200);
            check.due("bar of day " + days[i], x.worth(i, 0, 0, 2), days[i] < 50 ? OrchestraYear.NO : 1);
        }
    }

    private void noChairs() {
        OrchestraYear x = new OrchestraYear();
        x.player(0, 63, 1);
        x.service(0, 0, 0, 1);
        x.work(1, 1, 0);
        for (int works = 0; works < 2; works++) {
            check.due("chairs", x.serviceTold(0, 5), 0);
            check.due("gaps", x.gaps(0), 0);
            check.due("no chair 0", x.chair(0, 0, false), BAD);
            check.due("seat", x.seat(0), 0);
            check.due("seated", x.serviceTold(0, 6), 1);
            check.due("no chair 0", x.chair(0, 0, true), BAD);
            check.due("nobody sits", x.playerTold(0, 4), 0);
            check.due("rise", x.rise(0), 1);
            x.call(0, 0);
        }
    }

    private void noPlayers() {
        OrchestraYear x = new OrchestraYear();
        int service = Check.serviceFor(x, 0, 0, 0, 1, 255);
        check.due("gaps", x.gaps(service), 12);
        check.due("seat", x.seat(service), 12);
        check.due("gaps in it", x.serviceTold(service, 7), 12);
        check.due("gaps in all", x.count(6), 12);
        for (int chair = 0; chair < 12; chair++) {
            check.due("a gap", x.chair(service, chair, false), NONE);
            check.due("a gap", x.chair(service, chair, true), NONE);
        }
    }

    /** "to each one at most". */
    private void oneChairAtMost() {
        OrchestraYear x = new OrchestraYear();
        x.player(3, 63, 1);
        int service = Check.serviceFor(x, 0, 0, 0, 1, 1 + 4 + 16 + 64 + 256 + 1024);
        check.due("seat", x.seat(service), 5);
        for (int chair = 0; chair < 6; chair++) {
            check.due("chair " + chair, x.chair(service, chair, true), chair == 0 ? 0 : NONE);
        }
        check.due("it sits in one", x.playerTold(0, 4), 1);
    }

    private void tenPlayersForTwelveChairs() {
        OrchestraYear x = new OrchestraYear();
        for (int i = 0; i < 10; i++) {
            x.player(5, 63, 1);
        }
        int service = Check.serviceFor(x, 0, 0, 0, 1, 255);
        check.due("gaps", x.gaps(service), 2);
        for (int chair = 0; chair < 12; chair++) {
            check.due("chair " + chair, x.chair(service, chair, false), chair < 10 ? chair : NONE);
        }
        OrchestraYear y = new OrchestraYear();
        for (int i = 0; i < 10; i++) {
            y.player(i < 5 ? 3 : 0, i < 5 ? 4 : 2, 1);
        }
        // 0 .. 4 play 2 and 3, 5 .. 9 play 0 and 1, and there are three chairs of each
        int[] want = {5, 6, 7, 8, 9, NONE, 0, 1, 2, 3, 4, NONE};
        int other = Check.serviceFor(y, 0, 0, 0, 1, 255);
        for (int chair = 0; chair < 12; chair++) {
            check.due("chair " + chair, y.chair(other, chair, false), want[chair]);
        }
    }

    /** Giving 0 the first chair leaves 1 without one, till it comes to the last chair in place of 4. */
    private void movedAlong() {
        OrchestraYear x = new OrchestraYear();
        int[][] plays = {{0, 2}, {0, 3}, {1, 2}, {1}, {3}};
        for (int[] instruments : plays) {
            int doubles = 0;
            for (int instrument : instruments) {
                doubles |= 1 << instrument;
            }
            x.player(instruments[0], doubles, 1);
        }
        int service = Check.serviceFor(x, 0, 0, 0, 1, 1 + 4 + 16 + 64);
        int[] want = {0, 3, 2, 1};
        check.due("gaps", x.gaps(service), 0);
        for (int chair = 0; chair < 4; chair++) {
            check.due("chair " + chair, x.chair(service, chair, false), want[chair]);
        }
    }

    /** "(a GAP comes behind all)": three chairs of 3, three of 4 and one of 5, for five players who can all sit. */
    private void gapsMoveBehind() {
        int[] plays = {8 + 16, 8 + 32, 8 + 16, 8, 8};
        int[] want = {0, 3, 4, 2, NONE, NONE, 1};
        OrchestraYear x = new OrchestraYear();
        for (int set : plays) {
            x.player(3, set, 1);
        }
        int service = Check.serviceFor(x, 0, 0, 0, 1, 3 * 64 + 3 * 256 + 1024);
        check.due("gaps", x.seat(service), 2);
        for (int chair = 0; chair < want.length; chair++) {
            check.due("chair " + chair, x.chair(service, chair, true), want[chair]);
        }
    }

    /** THE SEATING of one chair of each instrument for many seven players, and of nine chairs for five, against all. */
    private void manySeatings() {
        long drawn = 1;
        for (int i = 0; i < 4000; i++) {
            int[] plays = new int[7];
            for (int player = 0; player < plays.length; player++) {
                drawn = drawn * 6364136223846793005L + 1442695040888963407L;
                plays[player] = 1 << (drawn >>> 33) % 6 | 1 << (drawn >>> 40) % 6;
            }
            smallSeating(plays, new int[] {0, 1, 2, 3, 4, 5}, 1 + 4 + 16 + 64 + 256 + 1024);
            int[] five = java.util.Arrays.copyOf(plays, 5);
            smallSeating(five, new int[] {0, 0, 1, 1, 1, 2, 3, 3, 3}, 2 + 12 + 16 + 192);
        }
    }

    /** THE SEATING of one chair of each of four instruments for every four players, and with two chairs of one. */
    private void allSmallSeatings() {
        for (int players = 0; players < 15 * 15 * 15 * 15; players++) {
            int[] plays = {1 + players % 15, 1 + players / 15 % 15, 1 + players / 225 % 15, 1 + players / 3375};
            smallSeating(plays, new int[] {0, 1, 2, 3}, 1 + 4 + 16 + 64);
            if (players % 15 < 7 && players / 15 % 15 < 7) {
                smallSeating(plays, new int[] {0, 1, 1, 2}, 1 + 8 + 16);
            }
        }
    }

    private void smallSeating(int[] plays, int[] chairs, int needs) {
        OrchestraYear x = new OrchestraYear();
        for (int set : plays) {
            x.player(Integer.numberOfTrailingZeros(set), set, 1);
        }
        int service = Check.serviceFor(x, 0, 0, 0, 1, needs);
        int[] best = new int[1 + chairs.length];
        best[0] = 1 + chairs.length;
        tryChairs(plays, chairs, new int[chairs.length], 0, best);
        check.due("gaps", x.seat(service), best[0]);
        for (int chair = 0; chair < chairs.length; chair++) {
            check.due("chair " + chair + " of players " + java.util.Arrays.toString(plays),
                x.chair(service, chair, true), best[1 + chair]);
        }
    }

    /** Tries all seatings, least players first, and keeps the first one of the fewest gaps: its gaps, its chairs. */
    private static void tryChairs(int[] plays, int[] chairs, int[] seating, int chair, int[] best) {
        if (chair == chairs.length) {
            int gaps = 0;
            for (int player : seating) {
                gaps += player == NONE ? 1 : 0;
            }
            if (gaps < best[0]) {
                best[0] = gaps;
                System.arraycopy(seating, 0, best, 1, chairs.length);
            }
            return;
        }
        for (int player = 0; player < plays.length; player++) {
            boolean free = (plays[player] & 1 << chairs[chair]) != 0;
            for (int i = 0; i < chair; i++) {
                free &= seating[i] != player;
            }
            if (free) {
                seating[chair] = player;
                tryChairs(plays, chairs, seating, chair + 1, best);
            }
        }
        seating[chair] = NONE;
        tryChairs(plays, chairs, seating, chair + 1, best);
    }

    /** Promise 19: "NONE: a GAP, not SEATED"; promise 11: "GAPS in it (NONE: not SEATED)"; promise 21. */
    private void notSeated() {
        OrchestraYear x = new OrchestraYear();
        x.player(0, 0, 1);
        int service = Check.serviceFor(x, 0, 0, 0, 1, 5);
        check.due("not seated", x.chair(service, 0, true), NONE);
        check.due("nor here", x.chair(service, 1, true), NONE);
        check.due("no chair", x.chair(service, 2, true), BAD);
        check.due("no gaps are told", x.serviceTold(service, 7), NONE);
        check.due("not seated", x.serviceTold(service, 6), 0);
        check.due("rise", x.rise(service), STATE);
        check.due("seat", x.seat(service), 1);
        check.due("seated", x.chair(service, 0, true), 0);
        check.due("a gap", x.chair(service, 1, true), NONE);
        check.due("gaps are told", x.serviceTold(service, 7), 1);
        check.due("rise", x.rise(service), 1);
        check.due("not seated", x.chair(service, 0, true), NONE);
        check.due("no gaps are told", x.serviceTold(service, 7), NONE);
        check.due("rise", x.rise(service), STATE);
        check.due("THE SEATING is told still", x.chair(service, 0, false), 0);
    }

    /** "(What is told later does not change it; till it is told anew or ended.)". */
    private void whatIsToldLater() {
        OrchestraYear x = new OrchestraYear();
        x.player(1, 1, 1);
        x.player(0, 0, 1);
        int service = Check.serviceFor(x, 0, 5, 5, 5, 1);
        check.due("seat", x.seat(service), 0);
        x.leave(0, 5, 5);
        Check.text(x, "bar 1;count 1;pay 1;");
        x.force(1, 0);
        x.score(0, 2, 0, 0);
        x.player(0, 0, 1);
        check.due("the player", x.chair(service, 0, true), 0);
        check.due("gaps", x.serviceTold(service, 7), 0);
        check.due("it sits", x.playerTold(0, 4), 1);
        check.due("no work comes", x.call(service, x.work(1, 1, 0)), STATE);
        check.due("THE SEATING has a gap", x.gaps(service), 1);
        check.due("told anew", x.seat(service), 1);
        check.due("a gap", x.chair(service, 0, true), NONE);
        x.force(1, 6);
        check.due("told anew", x.seat(service), 0);
        check.due("another player", x.chair(service, 0, true), 1);
        check.due("ended", x.rise(service), 1);
        check.due("a work comes", x.call(service, 1), 2);
    }

    /** Promise 20: "(the one ahead does not matter to it)". */
    private void theOneAheadDoesNotMatter() {
        OrchestraYear x = Check.under("bar 0<week;bar rest<99;count 1;pay 1;");
        x.player(0, 0, 1);
        int service = Check.serviceFor(x, 0, 5, 5, 5, 1);
        for (int i = 0; i < 3; i++) {
            check.due("seat", x.seat(service), 0);
            check.due("the player", x.chair(service, 0, true), 0);
            check.due("gaps", x.gaps(service), 0);
            check.due("may", x.may(service, 0, 0), 0);
        }
        check.due("one is seated", x.count(5), 1);
    }

    /** "it SITS in no other SERVICE that MEETS this one": from the time it sits there till it does no more. */
    private void othersThatMeet() {
        OrchestraYear x = new OrchestraYear();
        x.player(0, 0, 1);
        x.player(0, 0, 1);
        int first = Check.serviceFor(x, 0, 5, 5, 5, 1);
        int second = Check.serviceFor(x, 0, 5, 9, 5, 2);
        check.due("nobody sits", x.gaps(second), 0);
        x.seat(first);
        check.due("0 sits in the first", x.gaps(second), 1);
        check.due("1 is left", x.chair(second, 0, false), 1);
        check.due("seat", x.seat(second), 1);
        check.due("so 1 may not sit in the first", x.may(first, 1, 0), 3);
        check.due("but 0", x.may(first, 0, 0), 0);
        x.rise(first);
        check.due("told anew", x.seat(second), 0);
        check.due("now neither", x.gaps(first), 1);
        check.due("a gap", x.seat(first), 1);
        check.due("nobody sits in it", x.playerTold(0, 4) + x.playerTold(1, 4), 2);
    }

    private void riseAndSeat() {
        OrchestraYear x = new OrchestraYear();
        x.player(0, 0, 1);
        x.work(1, 1, 1);
        for (int i = 0; i < 40; i++) {
            x.service(0, i, 0, 1);
            x.call(i, 0);
            check.due("seat", x.seat(i), 0);
            check.due("seated", x.count(5), i + 1);
            check.due("it sits in", x.playerTold(0, 4), i + 1);
        }
        for (int i = 0; i < 40; i++) {
            check.due("rise", x.rise(i), 1);
            check.due("again", x.rise(i), STATE);
            check.due("seated", x.count(5), 39 - i);
            check.due("it sits in", x.playerTold(0, 4), 39 - i);
        }
    }

    /** Promise 27: "5 SERVICES that are SEATED, 6 GAPS in these". */
    private void gapsInAll() {
        OrchestraYear x = new OrchestraYear();
        x.work(1, 1, 255);
        for (int i = 0; i < 40; i++) {
            x.service(0, i, 0, 1);
            x.call(i, 0);
        }
        check.due("gaps of none", x.count(6), 0);
        for (int i = 0; i < 40; i++) {
            x.seat(i);
            check.due("gaps", x.count(6), 12 * (i + 1));
        }
        x.rise(7);
        check.due("gaps", x.count(6), 12 * 39);
    }

    /** "for the INSTRUMENT of its CHAIR": of each of twelve chairs. */
    private void instrumentOfItsChair() {
        int[][] needs = {{3, 3, 3, 3, 0, 0}, {0, 0, 3, 3, 3, 3}, {2, 2, 2, 2, 2, 2}, {0, 3, 0, 3, 0, 3},
            {1, 0, 0, 0, 0, 3}};
        for (int[] need : needs) {
            OrchestraYear x = Check.under("count chair+1;pay chair*10+double;");
            for (int i = 0; i < 10; i++) {
                x.player(0, 63, 1);
            }
            int told = 0;
            for (int i = 5; i >= 0; i--) {
                told = 4 * told + need[i];
            }
            x.seat(Check.serviceFor(x, 0, 0, 0, 1, told));
            int player = 0;
            for (int instrument = 0; instrument < 6; instrument++) {
                for (int k = 0; k < need[instrument] && player < 10; k++) {
                    check.due("hours of " + player, x.due(player, 0, 400, 0), instrument + 1);
                    check.due("pay of " + player, x.due(player, 0, 400, 1), instrument == 0 ? 0 : 10 * instrument + 1);
                    player++;
                }
            }
            for (; player < 10; player++) {
                check.due("it does not sit", x.due(player, 0, 400, 0), 0);
            }
        }
    }

    /** "from a DAY to another one: of all SERVICES of these DAYS", both with them. */
    private void daysOfDue() {
        int[] days = {0, 1, 199, 200, 201, 399, 400};
        OrchestraYear x = new OrchestraYear();
        x.player(0, 0, 1);
        x.work(1, 1, 1);
        for (int i = 0; i < days.length; i++) {
            x.service(0, days[i], 23, 1);
            x.call(i, 0);
            x.seat(i);
        }
        int[][] spans = {{0, 0}, {0, 1}, {1, 1}, {2, 198}, {1, 199}, {199, 201}, {200, 200}, {201, 398}, {399, 399},
            {399, 400}, {400, 400}, {0, 400}, {0, 399}, {1, 400}};
        for (int[] span : spans) {
            int in = 0;
            for (int day : days) {
                in += day >= span[0] && day <= span[1] ? 1 : 0;
            }
            String what = "from " + span[0] + " to " + span[1];
            check.due("hours " + what, x.due(0, span[0], span[1], 0), in);
            check.due("pay " + what, x.due(0, span[0], span[1], 1), 10 * in);
        }
    }

    private void nothingDue() {
        OrchestraYear x = new OrchestraYear();
        x.player(0, 0, 1);
        check.due("no services", x.due(0, 0, 400, 0), 0);
        int service = Check.serviceFor(x, 3, 0, 0, 1, 1);
        check.due("not seated", x.due(0, 0, 400, 1), 0);
        x.leave(0, 0, 0);
        x.seat(service);
        check.due("seated, but it does not sit", x.due(0, 0, 400, 1), 0);
        check.due("nor hours", x.due(0, 0, 400, 0), 0);
    }

    private long dueUnder(String expression, int kind, int what) {
        OrchestraYear x = Check.under("count " + expression + ";pay " + expression + ";");
        x.player(0, 0, 1);
        x.seat(Check.serviceFor(x, kind, 0, 0, 1, 1));
        return x.due(0, 0, 0, what);
    }

    /** "of a SCHOOL half of it (cut)", of each one by itself; HOURS of a SCHOOL are not halved. */
    private void halvesAreCut() {
        for (int pay = 0; pay <= 5; pay++) {
            check.due("half of " + pay, dueUnder("" + pay, 4, 1), pay / 2);
            check.due("half of -" + pay, dueUnder("-" + pay, 4, 1), -(pay / 2));
            check.due("hours of " + pay, dueUnder("" + pay, 4, 0), pay);
            check.due("pay of a RECORD", dueUnder("" + pay, 5, 1), 2 * pay);
            check.due("hours of a RECORD", dueUnder("" + pay, 5, 0), 2 * pay);
            check.due("pay of an AWAY", dueUnder("" + pay, 3, 1), pay + 5);
            check.due("hours of an AWAY", dueUnder("" + pay, 3, 0), pay + 2);
        }
        OrchestraYear x = Check.under("count 1;pay 3;");
        x.player(0, 0, 1);
        x.seat(Check.serviceFor(x, 4, 0, 0, 1, 1));
        x.seat(Check.serviceFor(x, 4, 1, 0, 1, 1));
        check.due("each is cut by itself", x.due(0, 0, 400, 1), 2);
    }

    private void dueWraps() {
        check.due("least", dueUnder(LEAST, 0, 1), Long.MIN_VALUE);
        check.due("twice the least", dueUnder(LEAST, 5, 1), 0);
        check.due("half of the least", dueUnder(LEAST, 4, 1), OrchestraYear.NO);
        check.due("5 more than the greatest", dueUnder(LEAST + "-1", 3, 1), Long.MIN_VALUE + 4);
        check.due("2 more than the greatest", dueUnder(LEAST + "-1", 3, 0), Long.MIN_VALUE + 1);
        check.due("half of the greatest", dueUnder(LEAST + "-1", 4, 1), Long.MAX_VALUE / 2);
        OrchestraYear x = Check.under("count 1;pay " + LEAST + ";");
        x.player(0, 0, 1);
        x.seat(Check.serviceFor(x, 0, 0, 0, 1, 1));
        x.seat(Check.serviceFor(x, 0, 1, 0, 1, 1));
        check.due("two of the least", x.due(0, 0, 400, 1), 0);
        check.due("one of them", x.due(0, 1, 400, 1), Long.MIN_VALUE);
    }
}
