/**
 * Long runs of calls, each answer compared with that of Model. The numbers are drawn by a rule, so all runs are alike.
 * No object is used for more than 512 calls: what later ones answer is free.
 */
public final class ModelTest {
    private static final int RUNS = 3000;
    private static final int CALLS = 512;
    private static final int CALLS_OF_A_STEP = 14;
    private static final int LAST_LOOKS = 100;
    private static final String[] NAMES = {"kind", "weekday", "hour", "long", "chair", "post", "double", "desk", "week",
        "rest"};
    private static final String[] SCRAPS = {"bar", "count", "pay", "or", "and", "not", "(", ")", ";", "+", "-", "*",
        "<", "=", "1", "99999", "123456", "long", "weekdays", "wek", "A", "?", "\n"};

    private final Check check;
    private long drawn;
    private OrchestraYear year;
    private Model model;
    private int run;
    private int made;
    private String waiting = "";
    private int mostServices;
    private int seatsFrom;
    private int sparseness;
    private final int[] lastPut = new int[6];

    private ModelTest(Check check) {
        this.check = check;
    }

    public static void main(String[] args) {
        Check check = new Check("ModelTest");
        ModelTest test = new ModelTest(check);
        for (int run = 0; run < RUNS; run++) {
            test.goThrough(run);
        }
        check.finish();
    }

    private int draw(int below) {
        drawn = drawn * 6364136223846793005L + 1442695040888963407L;
        return (int) ((drawn >>> 33) % below);
    }

    private int between(int low, int high) {
        return low + draw(high - low + 1);
    }

    /** Mostly a number within, now and then one at the edge or outside. */
    private int near(int low, int high) {
        int dice = draw(60);
        if (dice == 0) {
            return low - 1;
        }
        if (dice == 1) {
            return high + 1;
        }
        if (dice == 2) {
            return draw(2) == 0 ? Integer.MIN_VALUE : Integer.MAX_VALUE;
        }
        return high < low ? low : between(low, high);
    }

    private void goThrough(int number) {
        run = number;
        drawn = 7919L * number + 17;
        year = new OrchestraYear();
        model = new Model();
        waiting = "";
        mostServices = new int[] {3, 8, 20, 40}[draw(4)];
        sparseness = between(2, 5);
        seatsFrom = number % 3 == 0 ? CALLS / 2 : 0;
        made = 0;
        java.util.Arrays.fill(lastPut, 0);
        int days = new int[] {3, 10, 30, 400}[draw(4)];
        int wildness = draw(3);
        while (made + CALLS_OF_A_STEP + LAST_LOOKS <= CALLS) {
            if (made < 60 && draw(2) == 0) {
                build(days);
            } else {
                anyCall(days, wildness);
            }
        }
        lookAround();
        if (made > CALLS) {
            throw new IllegalStateException(made + " calls of one object");
        }
    }

    private void build(int days) {
        switch (draw(4)) {
            case 0: callWork(); break;
            case 1: callPlayer(); break;
            case 2: callService(days); break;
            default: callCall(); callCall(); break;
        }
    }

    private void anyCall(int days, int wildness) {
        switch (draw(30)) {
            case 0: callWork(); break;
            case 1: callScore(days); break;
            case 2: callPlayer(); break;
            case 3: callLeave(days); break;
            case 4: callService(days); break;
            case 5: case 6: callCall(); break;
            case 7: case 8: case 9: case 10: callFeed(wildness); break;
            case 11: callForce(days); break;
            case 12: callMay(); break;
            case 13: callWorth(); break;
            case 14: case 15: callSeat(); break;
            case 16: callRise(); break;
            case 17: callGaps(); break;
            case 18: callChair(); break;
            case 19: callDue(days); break;
            case 20: callOrder(); break;
            case 21: callProgramme(days); break;
            case 22: callPut(days); break;
            case 23: case 24: case 25: callForge(); break;
            case 26: callTold(days); break;
            default: callCount(); break;
        }
    }

    private void same(String name, long got, long want, int... with) {
        made++;
        if (got == want) {
            check.due(name, got, want);
            return;
        }
        StringBuilder told = new StringBuilder("run " + run + ", call " + made + ": " + name + "(");
        for (int i = 0; i < with.length; i++) {
            told.append(i == 0 ? "" : ", ").append(with[i]);
        }
        check.due(told.append(")").toString(), got, want);
    }

    private int aWork() {
        return near(0, model.count(0) - 1);
    }

    private int aPlayer() {
        return near(0, model.count(1) - 1);
    }

    private int aService() {
        return near(0, model.count(2) - 1);
    }

    private int aNeed() {
        int needs = 0;
        for (int i = 0; i < 6; i++) {
            needs = 4 * needs + (draw(sparseness) == 0 ? between(1, 3) : 0);
        }
        return draw(50) == 0 ? near(0, 4095) : needs;
    }

    private void callWork() {
        int a = near(1, draw(2) == 0 ? 5 : 90);
        int b = near(0, draw(2) == 0 ? 3 : 1000);
        int c = aNeed();
        same("work", year.work(a, b, c), model.work(a, b, c), a, b, c);
    }

    private void callScore(int days) {
        int a = aWork();
        int b = near(0, 2);
        int c = near(0, days);
        int d = draw(4) == 0 ? near(0, days) : near(c < 0 || c > days ? 0 : c, days);
        same("score", year.score(a, b, c, d), model.score(a, b, c, d), a, b, c, d);
    }

    private void callPlayer() {
        int a = near(0, 5);
        int b = draw(3) == 0 ? 0 : near(0, 63);
        int c = near(1, 9);
        same("player", year.player(a, b, c), model.player(a, b, c), a, b, c);
    }

    private void callLeave(int days) {
        int a = aPlayer();
        int b = near(0, days);
        int c = draw(3) == 0 ? near(0, days) : b;
        same("leave", year.leave(a, b, c), model.leave(a, b, c), a, b, c);
    }

    private void callService(int days) {
        if (model.count(2) >= mostServices && draw(10) != 0) {
            callCall();
            return;
        }
        int a = near(0, 5);
        int b = near(0, days);
        int c = near(0, 23);
        int d = near(1, 8);
        same("service", year.service(a, b, c, d), model.service(a, b, c, d), a, b, c, d);
    }

    private void callCall() {
        int a = aService();
        int b = aWork();
        same("call", year.call(a, b), model.call(a, b), a, b);
    }

    /** Feeds the next bytes of a drawn text; reads it when they are all there. */
    private void callFeed(int wildness) {
        if (waiting.isEmpty()) {
            waiting = drawText(wildness) + "\u0001";
        }
        if (waiting.charAt(0) == '\u0001') {
            waiting = "";
            same("text", year.text(), model.text());
            return;
        }
        if (draw(30) == 0) {
            int n = near(1, 8);
            same("feed", year.feed(n, drawn), model.feed(n, drawn), n);
            return;
        }
        int n = Math.min(8, waiting.length() - 1);
        long bytes = Check.packed(waiting.getBytes(java.nio.charset.StandardCharsets.ISO_8859_1), 0, n);
        same("feed", year.feed(n, bytes), model.feed(n, bytes), n);
        waiting = waiting.substring(n);
    }

    private String drawText(int wildness) {
        StringBuilder text = new StringBuilder();
        int bars = draw(20) == 0 ? between(7, 9) : draw(4);
        for (int i = 0; i < bars; i++) {
            text.append("bar ").append(draw(2) == 0 ? drawBar() : drawExpression(between(1, 3))).append(";");
        }
        text.append(" count ").append(drawExpression(between(0, 3)));
        text.append(" ; pay ").append(drawExpression(between(0, 4))).append(";");
        if (draw(4) < wildness) {
            spoil(text);
        }
        return text.length() > 290 && draw(2) == 0 ? text.substring(0, 290) : text.toString();
    }

    private String drawBar() {
        String name = NAMES[draw(NAMES.length)];
        return draw(2) == 0 ? name + " < " + draw(12) : draw(9) + " < " + name + " and " + drawExpression(1);
    }

    private void spoil(StringBuilder text) {
        int at = draw(text.length());
        if (draw(3) == 0) {
            text.deleteCharAt(at);
        } else if (draw(3) == 0) {
            text.setLength(at);
        } else {
            text.insert(at, " " + SCRAPS[draw(SCRAPS.length)] + (draw(2) == 0 ? " " : ""));
        }
    }

    private String drawExpression(int depth) {
        if (depth <= 0) {
            return draw(2) == 0 ? NAMES[draw(NAMES.length)] : "" + draw(draw(5) == 0 ? 99999 : 10);
        }
        String one = drawExpression(depth - 1 - draw(2));
        switch (draw(11)) {
            case 0: return "not " + one;
            case 1: return "-" + one;
            case 2: case 3: return "(" + one + ")";
            case 4: return one + " or " + drawExpression(depth - 1);
            case 5: return one + " and " + drawExpression(depth - 1);
            case 6: return one + "<" + drawExpression(depth - 2);
            case 7: return one + " = " + drawExpression(depth - 2);
            case 8: return one + "+" + drawExpression(depth - 1);
            case 9: return one + " - " + drawExpression(depth - 1);
            default: return one + "*" + drawExpression(depth - 1);
        }
    }

    private void callForce(int days) {
        int a = near(0, model.count(3) - 1);
        int b = near(0, days);
        same("force", year.force(a, b), model.force(a, b), a, b);
        int c = near(0, 400);
        same("inForce", year.inForce(c), model.inForce(c), c);
    }

    private void callMay() {
        int a = aService();
        int b = aPlayer();
        int c = draw(2) == 0 ? near(0, 5) : model.playerTold(b, 0);
        same("may", year.may(a, b, c), model.may(a, b, c), a, b, c);
    }

    private void callWorth() {
        int a = aService();
        int b = aPlayer();
        int c = near(0, 5);
        int d = near(0, draw(3) == 0 ? 5 : 1);
        same("worth", year.worth(a, b, c, d), model.worth(a, b, c, d), a, b, c, d);
    }

    private void callSeat() {
        if (made < seatsFrom) {
            callCall();
            callOrder();
            return;
        }
        int a = aService();
        same("seat", year.seat(a), model.seat(a), a);
        for (int i = 0; i < model.serviceTold(a, 5); i++) {
            same("chair", year.chair(a, i, true), model.chair(a, i, true), a, i, 1);
        }
    }

    private void callRise() {
        int a = aService();
        same("rise", year.rise(a), model.rise(a), a);
    }

    private void callGaps() {
        int a = aService();
        same("gaps", year.gaps(a), model.gaps(a), a);
    }

    private void callChair() {
        int a = aService();
        int b = near(0, Math.max(0, model.serviceTold(a, 5) - 1));
        boolean told = draw(2) == 0;
        same("chair", year.chair(a, b, told), model.chair(a, b, told), a, b, told ? 1 : 0);
    }

    private void callDue(int days) {
        int a = aPlayer();
        int b = near(0, draw(2) == 0 ? 0 : days);
        int c = near(0, draw(2) == 0 ? 400 : days);
        int d = near(0, 1);
        same("due", year.due(a, b, c, d), model.due(a, b, c, d), a, b, c, d);
    }

    private void callOrder() {
        int a = aService();
        if (draw(2) == 0) {
            same("waits", year.waits(a), model.waits(a), a);
            return;
        }
        for (int i = -1; i < 6; i++) {
            same("order", year.order(a, i), model.order(a, i), a, i);
        }
    }

    private void callProgramme(int days) {
        if (draw(3) == 0) {
            int set = near(0, (1 << model.count(0)) - 1);
            same("price", year.price(set), model.price(set), set);
            return;
        }
        int a = near(0, days);
        int b = draw(4) == 0 ? near(0, 1080) : near(0, draw(2) == 0 ? 20 : 100);
        int c = draw(2) == 0 ? near(0, 300) : b > 2000 ? b : b + draw(10);
        same("programme", year.programme(a, b, c), model.programme(a, b, c), a, b, c);
    }

    private void callPut(int days) {
        int a = near(0, 5);
        int b = near(0, 4);
        int c = b == 1 ? aService() : near(0, days);
        int answer = model.put(a, b, c);
        same("put", year.put(a, b, c), answer, a, b, c);
        same("status", year.status(), model.status());
        if (answer == 1) {
            lastPut[a] = b;
        }
    }

    private void callForge() {
        int a = near(0, 5);
        boolean fitting = a >= 0 && a < 6 && lastPut[a] > 0 && draw(3) != 0;
        int b = fitting ? lastPut[a] - 1 : near(0, 8);
        b = b == 2 && draw(2) == 0 ? 5 : b;
        int c = draw(3) == 0 ? near(-100, 100) : near(-2, 9);
        same("forge", year.forge(a, b, c), model.forge(a, b, c), a, b, c);
        same("status", year.status(), model.status());
    }

    private void callTold(int days) {
        int a = aWork();
        int b = near(0, 5);
        same("workTold", year.workTold(a, b), model.workTold(a, b), a, b);
        int c = aPlayer();
        int d = near(0, 4);
        same("playerTold", year.playerTold(c, d), model.playerTold(c, d), c, d);
        int e = aService();
        int f = near(0, 13);
        same("serviceTold", year.serviceTold(e, f), model.serviceTold(e, f), e, f);
        int g = near(0, days);
        same("played", year.played(a, g), model.played(a, g), a, g);
    }

    private void callCount() {
        int a = near(0, 6);
        same("count", year.count(a), model.count(a), a);
    }

    /** At the end of a run, a part of all that can be seen: another one in each run. */
    private void lookAround() {
        switch (run % 4) {
            case 0: lookAtWorks(); break;
            case 1: lookAtPlayers(); break;
            case 2: lookAtServices(); break;
            default: lookAtDays(); break;
        }
    }

    private void lookAtWorks() {
        for (int what = 0; what < 7; what++) {
            same("count", year.count(what), model.count(what), what);
        }
        for (int w = 0; w < model.count(0); w++) {
            for (int what = 0; what < 6; what++) {
                same("workTold", year.workTold(w, what), model.workTold(w, what), w, what);
            }
        }
    }

    private void lookAtPlayers() {
        for (int p = 0; p < model.count(1); p++) {
            for (int what = 0; what < 5; what++) {
                same("playerTold", year.playerTold(p, what), model.playerTold(p, what), p, what);
            }
            same("due", year.due(p, 0, 400, 0), model.due(p, 0, 400, 0), p, 0, 400, 0);
            same("due", year.due(p, 0, 400, 1), model.due(p, 0, 400, 1), p, 0, 400, 1);
        }
    }

    private void lookAtServices() {
        int services = model.count(2);
        int first = services > 7 ? draw(services - 6) : 0;
        for (int s = first; s < Math.min(services, first + 7); s++) {
            for (int what = 0; what < 14; what++) {
                same("serviceTold", year.serviceTold(s, what), model.serviceTold(s, what), s, what);
            }
        }
    }

    private void lookAtDays() {
        for (int day = 0; day <= 400; day += 5) {
            same("inForce", year.inForce(day), model.inForce(day), day);
        }
    }
}
