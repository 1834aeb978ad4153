/** Promises 4 player, 5 leave, 10 playerTold. */
public final class PlayersTest {
    public static void main(String[] args) {
        Check check = new Check("PlayersTest");
        players(check);
        leaves(check);
        told(check);
        check.finish();
    }

    private static void players(Check check) {
        OrchestraYear x = new OrchestraYear();
        int[][] bad = {{-1, 0, 1}, {6, 0, 1}, {0, -1, 1}, {0, 64, 1}, {0, 0, 0}, {0, 0, 10},
            {Integer.MAX_VALUE, 0, 1}, {0, Integer.MIN_VALUE, 1}, {0, 0, Integer.MIN_VALUE}};
        for (int[] p : bad) {
            check.due("player of bad numbers", x.player(p[0], p[1], p[2]), OrchestraYear.BAD);
        }
        check.due("bad players change nothing", x.count(1), 0);
        check.due("player(0, 0, 1)", x.player(0, 0, 1), 0);
        check.due("player(5, 63, 9)", x.player(5, 63, 9), 1);
        for (int i = 2; i < 10; i++) {
            check.due("player " + i, x.player(i % 6, i, 2), i);
        }
        check.due("an 11th player", x.player(0, 0, 1), OrchestraYear.FULL);
        check.due("BAD goes ahead of FULL", x.player(6, 0, 1), OrchestraYear.BAD);
        check.due("the last one", x.playerTold(9, 1), 9);
        for (int i = 10; i < 13; i++) {
            check.due("none behind it", x.playerTold(i, 0), OrchestraYear.BAD);
            check.due("none behind it", x.leave(i, 0, 0), OrchestraYear.BAD);
        }
        check.due("count(1)", x.count(1), 10);
    }

    private static void leaves(Check check) {
        OrchestraYear x = new OrchestraYear();
        check.due("leave of no player", x.leave(0, 0, 0), OrchestraYear.BAD);
        x.player(0, 0, 1);
        x.player(0, 0, 1);
        check.due("player -1", x.leave(-1, 0, 0), OrchestraYear.BAD);
        check.due("from below 0", x.leave(0, -1, 0), OrchestraYear.BAD);
        check.due("to above 400", x.leave(0, 0, 401), OrchestraYear.BAD);
        check.due("from above to", x.leave(0, 6, 5), OrchestraYear.BAD);
        check.due("refusals change nothing", x.playerTold(0, 3), 0);
        for (int i = 1; i <= 6; i++) {
            check.due("leave " + i, x.leave(0, 10 * i, 10 * i + 2), i);
        }
        check.due("a 7th leave", x.leave(0, 0, 0), OrchestraYear.FULL);
        check.due("BAD goes ahead of FULL", x.leave(0, 2, 1), OrchestraYear.BAD);
        check.due("the other one's first", x.leave(1, 0, 400), 1);
        int service = x.service(0, 62, 0, 1);
        check.due("the last day of the 6th leave", x.may(service, 0, 0), 2);
        check.due("the day behind it", x.may(x.service(0, 63, 0, 1), 0, 0), 0);
        check.due("the first day of the first one", x.may(x.service(0, 10, 0, 1), 0, 0), 2);
        check.due("the refused one does not count", x.may(x.service(0, 0, 0, 1), 0, 0), 0);
    }

    private static void told(Check check) {
        OrchestraYear x = new OrchestraYear();
        x.player(1, 2, 3);
        x.player(4, 19, 6);
        int[] want = {4, 19, 6, 0, 0};
        for (int what = 0; what < want.length; what++) {
            check.due("playerTold(1, " + what + ")", x.playerTold(1, what), want[what]);
        }
        check.due("DOUBLES as told, with its POST", x.playerTold(0, 1), 2);
        check.due("what -1", x.playerTold(0, -1), OrchestraYear.BAD);
        check.due("what 5", x.playerTold(0, 5), OrchestraYear.BAD);
        check.due("player 2", x.playerTold(2, 0), OrchestraYear.BAD);
        check.due("player -1", x.playerTold(-1, 0), OrchestraYear.BAD);
        int first = Check.serviceFor(x, 0, 1, 1, 1, 4);
        int second = Check.serviceFor(x, 0, 2, 1, 1, 4);
        x.seat(first);
        check.due("sits in one", x.playerTold(0, 4), 1);
        x.seat(second);
        check.due("sits in two", x.playerTold(0, 4), 2);
        check.due("the other one sits in none", x.playerTold(1, 4), 0);
        x.rise(first);
        check.due("sits in one again", x.playerTold(0, 4), 1);
    }
}
