import java.util.function.IntToLongFunction;

/**
 * Of every number that a call takes the least and the greatest one that is taken, and the first one outside on each
 * side, with those far off. Each is tried on an object of its own.
 */
public final class RangesTest {
    private static final long BAD = OrchestraYear.BAD;
    private static final long NO = OrchestraYear.NO;
    private static final long NONE = OrchestraYear.NONE;
    private static final int MIN = Integer.MIN_VALUE;
    private static final int MAX = Integer.MAX_VALUE;

    /** What a call answers for number n, where there are so many things. */
    private interface Numbered {
        long answer(int things, int n);
    }

    private final Check check;

    private RangesTest(Check check) {
        this.check = check;
    }

    public static void main(String[] args) {
        Check check = new Check("RangesTest");
        RangesTest test = new RangesTest(check);
        test.numbersOfWorks();
        test.numbersOfPlayers();
        test.numbersOfServices();
        test.numbersOfTexts();
        test.numbersOfChairs();
        test.ownNumbers();
        test.instruments();
        test.days();
        test.spans();
        test.whats();
        test.sets();
        test.trays();
        test.freeNumbers();
        check.finish();
    }

    private void range(String what, int least, int greatest, long refusal, IntToLongFunction call) {
        for (int n : new int[] {least, greatest}) {
            check.due(what + " " + n + " is taken", call.applyAsLong(n) == refusal ? 0 : 1, 1);
        }
        for (int n : new int[] {least - 1, greatest + 1, MIN, MAX}) {
            check.due(what + " " + n, call.applyAsLong(n), refusal);
        }
    }

    /** Of no things no number is taken; of some, those from 0 on, till as many as can be. */
    private void numbers(String what, int most, long refusal, Numbered call) {
        for (int n : new int[] {-1, 0, 1, most - 1, most, MIN, MAX}) {
            check.due(what + " " + n + " of none", call.answer(0, n), refusal);
        }
        for (int things : new int[] {1, 2, most - 1, most}) {
            range(what + " of " + things + ":", 0, things - 1, refusal, n -> call.answer(things, n));
        }
    }

    /** So many works without needs, players of all instruments, services an hour long on days of their own. */
    private static OrchestraYear year(int works, int players, int services) {
        OrchestraYear x = new OrchestraYear();
        for (int i = 0; i < works; i++) {
            x.work(1, 1, 0);
        }
        for (int i = 0; i < players; i++) {
            x.player(0, 63, 1);
        }
        for (int i = 0; i < services; i++) {
            x.service(0, i, 0, 1);
        }
        return x;
    }

    private static OrchestraYear withTexts(int texts) {
        OrchestraYear x = year(1, 1, 1);
        for (int i = 1; i < texts; i++) {
            Check.text(x, "count 1;pay 1;");
        }
        return x;
    }

    /** One service, seated, with so many chairs, and a player for the first. */
    private static OrchestraYear withChairs(int chairs) {
        OrchestraYear x = year(0, 1, 1);
        int[] needs = {0, 1, 2, 3, 3 + 4, 3 + 8, 15, 15 + 16, 15 + 32, 63, 63 + 64, 63 + 128, 255};
        x.work(1, 1, needs[chairs]);
        x.call(0, 0);
        x.seat(0);
        return x;
    }

    private void numbersOfWorks() {
        numbers("score of work", 12, BAD, (k, n) -> year(k, 0, 0).score(n, 0, 0, 0));
        numbers("call of work", 12, BAD, (k, n) -> year(k, 0, 1).call(0, n));
        numbers("workTold of work", 12, BAD, (k, n) -> year(k, 0, 0).workTold(n, 0));
        numbers("played of work", 12, BAD, (k, n) -> year(k, 0, 0).played(n, 0));
    }

    private void numbersOfPlayers() {
        numbers("leave of player", 10, BAD, (k, n) -> year(0, k, 0).leave(n, 0, 0));
        numbers("playerTold of player", 10, BAD, (k, n) -> year(0, k, 0).playerTold(n, 0));
        numbers("may of player", 10, BAD, (k, n) -> year(0, k, 1).may(0, n, 0));
        numbers("worth of player", 10, NO, (k, n) -> year(0, k, 1).worth(0, n, 0, 0));
        numbers("due of player", 10, NO, (k, n) -> year(0, k, 1).due(n, 0, 400, 0));
    }

    private void numbersOfServices() {
        numbers("call of service", 40, BAD, (k, n) -> year(1, 0, k).call(n, 0));
        numbers("serviceTold of service", 40, BAD, (k, n) -> year(0, 0, k).serviceTold(n, 0));
        numbers("may of service", 40, BAD, (k, n) -> year(0, 1, k).may(n, 0, 0));
        numbers("worth of service", 40, NO, (k, n) -> year(0, 1, k).worth(n, 0, 0, 0));
        numbers("gaps of service", 40, BAD, (k, n) -> year(0, 0, k).gaps(n));
        numbers("seat of service", 40, BAD, (k, n) -> year(0, 0, k).seat(n));
        numbers("rise of service", 40, BAD, RangesTest::riseOfSeated);
        numbers("waits of service", 40, BAD, (k, n) -> year(0, 0, k).waits(n));
        numbers("order of service", 40, BAD, (k, n) -> year(0, 0, k).order(n, 0));
        numbers("put of service", 40, -1, (k, n) -> year(0, 0, k).put(0, 1, n));
        for (boolean told : new boolean[] {false, true}) {
            numbers("chair of service, " + told, 12, BAD, (k, n) -> chairOfService(k, n, told));
        }
    }

    private static long riseOfSeated(int services, int service) {
        OrchestraYear x = year(0, 0, services);
        x.seat(service);
        return x.rise(service);
    }

    private static long chairOfService(int services, int service, boolean told) {
        OrchestraYear x = year(0, 0, services);
        x.work(1, 0, 1);
        for (int i = 0; i < services; i++) {
            x.call(i, 0);
        }
        return x.chair(service, 0, told);
    }

    private void numbersOfTexts() {
        for (int texts : new int[] {1, 2, 10}) {
            range("force of text, of " + texts + ":", 0, texts - 1, BAD, n -> withTexts(texts).force(n, 0));
        }
    }

    private void numbersOfChairs() {
        numbers("chair", 12, BAD, (k, n) -> withChairs(k).chair(0, n, false));
        numbers("chair that is told", 12, BAD, (k, n) -> withChairs(k).chair(0, n, true));
        numbers("chair of what is not seated", 12, BAD, RangesTest::chairOfRisen);
    }

    private static long chairOfRisen(int chairs, int chair) {
        OrchestraYear x = withChairs(chairs);
        x.rise(0);
        return x.chair(0, chair, true);
    }

    private void ownNumbers() {
        range("work: minutes", 1, 90, BAD, n -> new OrchestraYear().work(n, 0, 0));
        range("work: price", 0, 1000, BAD, n -> new OrchestraYear().work(1, n, 0));
        range("work: needs", 0, 4095, BAD, n -> new OrchestraYear().work(1, 0, n));
        range("score: how", 0, 2, BAD, n -> year(1, 0, 0).score(0, n, 0, 0));
        range("player: desk", 1, 9, BAD, n -> new OrchestraYear().player(0, 0, n));
        range("service: kind", 0, 5, BAD, n -> new OrchestraYear().service(n, 0, 0, 1));
        range("service: hour", 0, 23, BAD, n -> new OrchestraYear().service(0, 0, n, 1));
        range("service: length", 1, 8, BAD, n -> new OrchestraYear().service(0, 0, 0, n));
        range("feed: n", 1, 8, BAD, n -> new OrchestraYear().feed(n, -1L));
        range("count: what", 0, 6, BAD, n -> new OrchestraYear().count(n));
    }

    private void instruments() {
        range("player: post", 0, 5, BAD, n -> new OrchestraYear().player(n, 0, 1));
        range("may: instrument", 0, 5, BAD, n -> year(0, 1, 1).may(0, 0, n));
        range("worth: instrument", 0, 5, NO, n -> year(0, 1, 1).worth(0, 0, n, 0));
    }

    private void days() {
        range("score: from", 0, 400, BAD, n -> year(1, 0, 0).score(0, 1, n, 400));
        range("score: to", 0, 400, BAD, n -> year(1, 0, 0).score(0, 1, 0, n));
        range("leave: from", 0, 400, BAD, n -> year(0, 1, 0).leave(0, n, 400));
        range("leave: to", 0, 400, BAD, n -> year(0, 1, 0).leave(0, 0, n));
        range("service: day", 0, 400, BAD, n -> new OrchestraYear().service(0, n, 0, 1));
        range("played: day", 0, 400, BAD, n -> year(1, 0, 0).played(0, n));
        range("force: day", 0, 400, BAD, n -> new OrchestraYear().force(0, n));
        range("inForce: day", 0, 400, BAD, n -> new OrchestraYear().inForce(n));
        for (int what = 0; what < 2; what++) {
            int asked = what;
            range("due: from", 0, 400, NO, n -> year(0, 1, 0).due(0, n, 400, asked));
            range("due: to", 0, 400, NO, n -> year(0, 1, 0).due(0, 0, n, asked));
        }
        range("programme: day", 0, 400, BAD, n -> new OrchestraYear().programme(n, 0, 0));
        range("put: day of bytes", 0, 400, -1, n -> new OrchestraYear().put(0, 2, n));
        range("put: day of truths", 0, 400, -1, n -> new OrchestraYear().put(0, 4, n));
    }

    /** From a day to the same one is taken, from above to is not. */
    private void spans() {
        for (int day : new int[] {0, 1, 200, 399, 400}) {
            check.due("score, one day", year(1, 0, 0).score(0, 1, day, day), 1);
            check.due("leave, one day", year(0, 1, 0).leave(0, day, day), 1);
            check.due("due, one day", year(0, 1, 0).due(0, day, day, 0), 0);
            check.due("due, one day", year(0, 1, 0).due(0, day, day, 1), 0);
        }
        for (int from : new int[] {1, 200, 400}) {
            check.due("score, from above to", year(1, 0, 0).score(0, 1, from, from - 1), BAD);
            check.due("leave, from above to", year(0, 1, 0).leave(0, from, from - 1), BAD);
            check.due("due, from above to", year(0, 1, 0).due(0, from, from - 1, 0), NO);
            check.due("due, from above to", year(0, 1, 0).due(0, from, from - 1, 1), NO);
        }
        int[][] outside = {{-2, -1}, {401, 402}, {-1, 401}, {MIN, MAX}, {MAX, MIN}};
        for (int[] span : outside) {
            check.due("score, both outside", year(1, 0, 0).score(0, 1, span[0], span[1]), BAD);
            check.due("leave, both outside", year(0, 1, 0).leave(0, span[0], span[1]), BAD);
            check.due("due, both outside", year(0, 1, 0).due(0, span[0], span[1], 1), NO);
        }
    }

    private void whats() {
        range("workTold: what", 0, 5, BAD, n -> year(1, 0, 0).workTold(0, n));
        range("playerTold: what", 0, 4, BAD, n -> year(0, 1, 0).playerTold(0, n));
        for (int n : new int[] {0, 7, 8, 12, 13, 1000, MAX}) {
            check.due("serviceTold: what " + n + " is taken", year(0, 0, 1).serviceTold(0, n) == BAD ? 0 : 1, 1);
        }
        check.due("serviceTold: what -1", year(0, 0, 1).serviceTold(0, -1), BAD);
        check.due("serviceTold: what MIN", year(0, 0, 1).serviceTold(0, MIN), BAD);
        range("due: what", 0, 1, NO, n -> year(0, 1, 1).due(0, 0, 400, n));
        for (int bars = 0; bars <= 8; bars++) {
            String text = "bar 1;".repeat(bars) + "count 1;pay 1;";
            range("worth of " + bars + " bars: what", 0, 1 + bars, NO, n -> worthUnder(text, n));
        }
    }

    private static long worthUnder(String text, int what) {
        OrchestraYear x = Check.under(text);
        x.player(0, 0, 1);
        x.service(0, 0, 0, 1);
        return x.worth(0, 0, 0, what);
    }

    private void sets() {
        range("player: doubles", 0, 63, BAD, n -> new OrchestraYear().player(0, n, 1));
        for (int works = 0; works <= 12; works++) {
            int k = works;
            range("price of " + works + " works: set", 0, (1 << works) - 1, BAD, n -> year(k, 0, 0).price(n));
        }
    }

    /** forge() may answer -1 in other ways, so its STATUS is looked at. */
    private void trays() {
        range("put: tray", 0, 5, -1, n -> new OrchestraYear().put(n, 3, 0));
        range("put: what", 0, 4, -1, n -> year(0, 0, 1).put(0, n, 0));
        range("forge: tray", 0, 5, 1, n -> statusOfForge(n, 4, 0));
        range("forge: what", 0, 8, 1, n -> statusOfForge(0, n, 1));
        for (int what = 0; what <= 8; what++) {
            int asked = what;
            range("forge " + what + ": n", -100, 100, 1, n -> statusOfForge(0, asked, n));
        }
    }

    private static long statusOfForge(int tray, int what, int n) {
        OrchestraYear x = new OrchestraYear();
        x.forge(tray, what, n);
        return x.status();
    }

    /** Where the document says that a number does not matter, or asks nothing of it, any is taken. */
    private void freeNumbers() {
        for (int n : new int[] {MIN, -1, 0, 400, 401, MAX}) {
            check.due("OURS: from, to", year(1, 0, 0).score(0, 0, n, -n), 1);
            check.due("LOST: from, to", year(1, 0, 0).score(0, 2, n, -n), 1);
            check.due("PAYS of n", new OrchestraYear().put(0, 3, n), 1);
            check.due("nothing of n", new OrchestraYear().put(0, 0, n), 1);
            check.due("order of i", year(0, 0, 1).order(0, n), NONE);
            check.due("programme: low", year(1, 0, 0).programme(0, n, MAX) == BAD ? 0 : 1, 1);
            check.due("programme: high", year(1, 0, 0).programme(0, MIN, n) == BAD ? 0 : 1, 1);
            check.due("bytes of feed", new OrchestraYear().feed(8, (long) n << 32), 8);
        }
    }
}
