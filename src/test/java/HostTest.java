/** Block 4: what a TRAY holds, what the host does with it and refuses, STATUS; promises 28 to 30. */
public final class HostTest {
    private static final int[][] UNDER = {{0}, {0, 1}, {0, 2}, {0, 2, 3}, {0, 4}, {0, 1, 5}};
    private static final int[] SORTS = {1, 2, 3, 4};

    private final Check check;

    private HostTest(Check check) {
        this.check = check;
    }

    public static void main(String[] args) {
        Check check = new Check("HostTest");
        HostTest test = new HostTest(check);
        test.nothingAtFirst();
        test.sixTrays();
        test.putAnewAndNothing();
        test.takenForAService();
        test.placesOfBytes();
        test.placesOfPays();
        test.paysAsInts();
        test.placesOfTruths();
        test.aRowOfBytes();
        test.copiedPays();
        test.copiedOtherThings();
        test.laidIntoARow();
        test.divided();
        test.aFailureThatIsNone();
        test.statusOfTheLatest();
        check.finish();
    }

    private void answers(String what, OrchestraYear x, int got, int want) {
        check.due(what, got, want);
        check.due(what + ": status", x.status(), 0);
    }

    private void refuses(String what, OrchestraYear x, int got, int status) {
        check.due(what, got, -1);
        check.due(what + ": status", x.status(), status);
    }

    private static OrchestraYear withPlayers(int players) {
        OrchestraYear x = new OrchestraYear();
        for (int i = 0; i < players; i++) {
            x.player(0, 0, 1);
        }
        return x;
    }

    /** "nothing (at first)": "10 nothing where something is asked". */
    private void nothingAtFirst() {
        for (int tray = 0; tray < 6; tray++) {
            OrchestraYear x = new OrchestraYear();
            check.due("no status yet", x.status(), 0);
            for (int n : new int[] {-100, -1, 0, 1, 100}) {
                for (int what : new int[] {0, 1, 2, 3, 5}) {
                    refuses("nothing in " + tray + ", what " + what, x, x.forge(tray, what, n), 10);
                }
                answers("nothing laid into a row", x, x.forge(tray, 6, n), 0);
            }
        }
    }

    private void sixTrays() {
        OrchestraYear x = new OrchestraYear();
        for (int i = 0; i < 6; i++) {
            x.service(0, 10 + i, 0, 1);
            answers("put", x, x.put(i, 1, i), 1);
        }
        for (int i = 0; i < 6; i++) {
            answers("tray " + i, x, x.forge(i, 0, 0), 10 + i);
        }
        answers("put into one", x, x.put(3, 1, 0), 1);
        for (int i = 0; i < 6; i++) {
            answers("tray " + i, x, x.forge(i, 0, 0), i == 3 ? 10 : 10 + i);
        }
    }

    /** Each sort of thing in place of each other one, and nothing in place of each. */
    private void putAnewAndNothing() {
        int[] answered = {33, 'c', 0, 1};
        for (int before : SORTS) {
            for (int sort : SORTS) {
                OrchestraYear x = withPlayers(1);
                x.leave(0, 0, 0);
                x.service(0, 33, 0, 1);
                x.put(0, before, 0);
                answers("put", x, x.put(0, sort, 0), 1);
                for (int what = 0; what <= 3; what++) {
                    if (what == sort - 1) {
                        answers(sort + " in place of " + before, x, x.forge(0, what, 0), answered[what]);
                    } else {
                        refuses(sort + " in place of " + before, x, x.forge(0, what, 0), 11);
                    }
                }
                answers("nothing", x, x.put(0, 0, 0), 1);
                for (int what = 0; what <= 3; what++) {
                    refuses("nothing in place of " + sort, x, x.forge(0, what, 0), 10);
                }
            }
        }
    }

    /** Forge 0: "KIND n modulo 6 (0 .. 5, also for n below 0) or one under that one (also by others between)". */
    private void takenForAService() {
        for (int kind = 0; kind < 6; kind++) {
            OrchestraYear x = new OrchestraYear();
            x.service(kind, 400, 0, 1);
            x.put(0, 1, 0);
            for (int n = -100; n <= 100; n++) {
                boolean fits = false;
                for (int above : UNDER[kind]) {
                    fits |= (n - above) % 6 == 0;
                }
                if (fits) {
                    answers("kind " + kind + " for " + n, x, x.forge(0, 0, n), 400);
                } else {
                    refuses("kind " + kind + " for " + n, x, x.forge(0, 0, n), 11);
                }
            }
        }
    }

    /** Forge 1: the first byte, the last one, one outside on each side. */
    private void placesOfBytes() {
        for (int size : new int[] {14, 15, 99, 100, 101, 102, 299, 300}) {
            OrchestraYear x = Check.under("count 1;pay 2;" + "\n".repeat(size - 14));
            x.put(0, 2, 0);
            answers("first byte of " + size, x, x.forge(0, 1, 0), 'c');
            refuses("ahead of it", x, x.forge(0, 1, -1), 12);
            refuses("far ahead of it", x, x.forge(0, 1, -100), 12);
            for (int n = 13; n <= 100; n++) {
                if (n < size) {
                    answers("byte " + n + " of " + size, x, x.forge(0, 1, n), n == 13 ? ';' : 10);
                } else {
                    refuses("byte " + n + " of " + size, x, x.forge(0, 1, n), 12);
                }
            }
            refuses("no such number", x, x.forge(0, 1, 101), 1);
        }
    }

    /** Forge 2: "the n-th", of none to ten PLAYERS. */
    private void placesOfPays() {
        for (int players = 0; players <= 10; players++) {
            OrchestraYear x = Check.under("count 1;pay 10*desk;");
            for (int i = 0; i < players; i++) {
                x.player(i % 6, 0, 1 + i % 9);
            }
            x.seat(Check.serviceFor(x, 0, 0, 0, 1, 1 + 4 + 16 + 64 + 256 + 1024));
            x.seat(Check.serviceFor(x, 0, 400, 0, 1, 2 + 8 + 32 + 128));
            x.put(0, 3, 0);
            for (int n = -100; n <= 100; n++) {
                if (n >= 0 && n < players) {
                    int services = (n < 6 ? 1 : 0) + (n % 6 < 4 ? 1 : 0);
                    answers("pay " + n + " of " + players, x, x.forge(0, 2, n), services * 10 * (1 + n % 9));
                } else {
                    refuses("pay " + n + " of " + players, x, x.forge(0, 2, n), 12);
                }
            }
        }
    }

    /** "as an int (its lowest bits)". */
    private void paysAsInts() {
        String[] pays = {"0", "-1", "65536*32768-1", "65536*32768", "65536*65536-1", "65536*65536", "65536*65536+5",
            "0-65536*32768", "0-65536*32768-1"};
        for (String pay : pays) {
            OrchestraYear x = Check.under("count 1;pay " + pay + ";");
            x.player(0, 0, 1);
            x.player(0, 0, 1);
            x.seat(Check.serviceFor(x, 0, 0, 0, 1, 2));
            x.put(0, 3, 0);
            int want = (int) x.due(0, 0, 400, 1);
            answers("pay " + pay, x, x.forge(0, 2, 0), want);
            answers("its copy", x, x.forge(0, 5, 1), want);
        }
    }

    /** Forge 3: "that of PLAYER n (1, 0)", of none to ten PLAYERS, each by itself on LEAVE. */
    private void placesOfTruths() {
        for (int players = 0; players <= 10; players++) {
            OrchestraYear x = withPlayers(players);
            for (int i = 0; i < players; i++) {
                x.leave(i, 20 * i, 20 * i + 30);
            }
            for (int day = 0; day <= 240; day += 20) {
                x.put(2, 4, day);
                for (int n = -1; n <= 10; n++) {
                    if (n >= 0 && n < players) {
                        boolean away = day >= 20 * n && day <= 20 * n + 30;
                        answers("truth " + n + " of day " + day, x, x.forge(2, 3, n), away ? 1 : 0);
                    } else {
                        refuses("truth " + n + " of " + players, x, x.forge(2, 3, n), 12);
                    }
                }
            }
            refuses("truth -100", x, x.forge(2, 3, -100), 12);
            refuses("truth 100", x, x.forge(2, 3, 100), 12);
        }
    }

    /** Forge 4: "a row of n bytes is made: 13; answers n", whatever the TRAY holds. */
    private void aRowOfBytes() {
        OrchestraYear x = new OrchestraYear();
        for (int n = -100; n <= 100; n++) {
            if (n < 0) {
                refuses("a row of " + n, x, x.forge(0, 4, n), 13);
            } else {
                answers("a row of " + n, x, x.forge(0, 4, n), n);
            }
        }
    }

    /** Forge 5: "12 (n below 0, or they do not stand there in both)", of none to ten PLAYERS. */
    private void copiedPays() {
        int[] sums = {0, 2, 2 + 3};
        for (int players = 0; players <= 10; players++) {
            OrchestraYear x = Check.under("count 1;pay desk;");
            for (int i = 0; i < players; i++) {
                x.player(0, 0, 1 + i % 9);
            }
            x.seat(Check.serviceFor(x, 0, 0, 0, 1, 3));
            x.put(0, 3, 0);
            for (int n = -100; n <= 100; n++) {
                if (n >= 0 && n <= 2 && n < players) {
                    answers(n + " pays of " + players, x, x.forge(0, 5, n), sums[n]);
                } else {
                    refuses(n + " pays of " + players, x, x.forge(0, 5, n), 12);
                }
            }
        }
    }

    private void copiedOtherThings() {
        for (int sort : new int[] {1, 2, 4}) {
            OrchestraYear x = withPlayers(3);
            x.service(0, 0, 0, 1);
            x.put(0, sort, 0);
            for (int n : new int[] {-100, -1, 0, 1, 2, 3, 100}) {
                refuses("sort " + sort + ", n " + n, x, x.forge(0, 5, n), 11);
            }
        }
    }

    /** Forge 6: "a row that takes REHEARSALS and RECORDS (14: it is another thing): ... (0: nothing)". */
    private void laidIntoARow() {
        for (int n : new int[] {-100, -1, 0, 1, 100}) {
            OrchestraYear x = withPlayers(2);
            answers("nothing", x, x.forge(0, 6, n), 0);
            for (int kind = 0; kind < 6; kind++) {
                x.service(kind, 395 + kind, 0, 1);
                x.put(0, 1, kind);
                if (kind == 1 || kind == 5) {
                    answers("kind " + kind, x, x.forge(0, 6, n), 395 + kind);
                } else {
                    refuses("kind " + kind, x, x.forge(0, 6, n), 14);
                }
            }
            for (int sort = 2; sort <= 4; sort++) {
                x.put(0, sort, 0);
                refuses("sort " + sort, x, x.forge(0, 6, n), 14);
            }
            x.put(0, 0, 0);
            answers("nothing", x, x.forge(0, 6, n), 0);
        }
        OrchestraYear y = new OrchestraYear();
        y.service(1, 0, 0, 1);
        y.put(0, 1, 0);
        answers("a rehearsal on day 0", y, y.forge(0, 6, 0), 0);
    }

    /** Forge 7: "1000 is divided by n: 15". */
    private void divided() {
        OrchestraYear x = new OrchestraYear();
        for (int n = 1; n <= 100; n++) {
            int want = 0;
            while ((want + 1) * n <= 1000) {
                want++;
            }
            answers("1000 by " + n, x, x.forge(5, 7, n), want);
            answers("1000 by -" + n, x, x.forge(5, 7, -n), -want);
        }
        refuses("1000 by 0", x, x.forge(5, 7, 0), 15);
    }

    /** Forge 8: "a failure is thrown that is none: 10", whatever n is and the TRAY holds. */
    private void aFailureThatIsNone() {
        OrchestraYear x = withPlayers(1);
        x.service(0, 0, 0, 1);
        for (int sort = 0; sort <= 4; sort++) {
            x.put(0, sort, 0);
            for (int n : new int[] {-100, -1, 0, 1, 100}) {
                refuses("a failure", x, x.forge(0, 8, n), 10);
            }
        }
    }

    /** "STATUS is of the latest put(), forge()": other calls, done or refused, leave it. */
    private void statusOfTheLatest() {
        OrchestraYear x = new OrchestraYear();
        refuses("put", x, x.put(6, 0, 0), 1);
        makeOtherCalls(x);
        check.due("status of put", x.status(), 1);
        check.due("status again", x.status(), 1);
        answers("put", x, x.put(0, 3, 0), 1);
        makeOtherCalls(x);
        check.due("status of put", x.status(), 0);
        refuses("forge", x, x.forge(0, 7, 0), 15);
        makeOtherCalls(x);
        check.due("status of forge", x.status(), 15);
        refuses("forge", x, x.forge(0, 9, 0), 1);
        answers("forge", x, x.forge(0, 7, 1), 1000);
        refuses("forge", x, x.forge(0, 2, 100), 12);
        answers("put", x, x.put(0, 0, 0), 1);
    }

    private static void makeOtherCalls(OrchestraYear x) {
        x.work(1, 1, 1);
        x.work(0, 0, 0);
        x.score(0, 0, 0, 0);
        x.player(0, 0, 1);
        x.leave(0, 400, 400);
        x.service(0, 0, 0, 1);
        x.call(0, 0);
        x.workTold(9, 9);
        x.played(0, 0);
        x.playerTold(0, 0);
        x.serviceTold(0, 0);
        Check.text(x, "count 1;pay 1;");
        x.text();
        x.force(1, 0);
        x.inForce(-1);
        x.may(0, 0, 0);
        x.worth(0, 0, 0, 0);
        x.gaps(0);
        x.chair(0, 0, false);
        x.seat(0);
        x.due(0, 0, 400, 1);
        x.rise(0);
        x.waits(0);
        x.order(0, 0);
        x.programme(0, 0, 0);
        x.price(0);
        x.count(0);
    }
}
