import java.util.ArrayList;
import java.util.Collections;
import java.util.HashSet;
import java.util.List;
import java.util.Set;

/** A second telling of the document, as plain as can be: it goes through all cases where the class is quick. */
final class Model {
    static final int NONE = -1, BAD = -2, STATE = -3, FULL = -4;
    static final long NO = -4611686018427387904L;
    private static final int[] ABOVE = {-1, 0, 0, 2, 0, 1};

    private static final class Work {
        int minutes, price, needs, how, from = NONE, to = NONE;

        int need(int i) {
            return needs / (int) Math.round(Math.pow(4, i)) % 4;
        }
    }

    private static final class Player {
        int post, doubles, desk;
        List<int[]> leaves = new ArrayList<>();
    }

    private static final class Service {
        int kind, day, hour, length;
        List<Integer> works = new ArrayList<>();
        List<Integer> seating = null;
    }

    private static final class Told {
        int text, day;
    }

    private final List<Work> works = new ArrayList<>();
    private final List<Player> players = new ArrayList<>();
    private final List<Service> services = new ArrayList<>();
    private final List<TextModel> texts = new ArrayList<>();
    private final List<Told> tellings = new ArrayList<>();
    private final StringBuilder tape = new StringBuilder();
    private final Object[] trays = new Object[6];
    private int status = 0;

    Model() {
        texts.add(new TextModel("count long ; pay long * 10 ;"));
        force(0, 0);
    }

    private static boolean in(int n, int low, int high) {
        return low <= n && n <= high;
    }

    private static boolean has(List<?> list, int n) {
        return in(n, 0, list.size() - 1);
    }

    private static boolean span(int from, int to) {
        return in(from, 0, 400) && in(to, 0, 400) && from <= to;
    }

    int work(int minutes, int price, int needs) {
        if (!in(minutes, 1, 90) || !in(price, 0, 1000) || !in(needs, 0, 4095)) {
            return BAD;
        }
        if (works.size() == 12) {
            return FULL;
        }
        Work w = new Work();
        w.minutes = minutes;
        w.price = price;
        w.needs = needs;
        works.add(w);
        return works.size() - 1;
    }

    int score(int work, int how, int from, int to) {
        if (!has(works, work) || !in(how, 0, 2) || how == 1 && !span(from, to)) {
            return BAD;
        }
        Work w = works.get(work);
        w.how = how;
        w.from = how == 1 ? from : NONE;
        w.to = how == 1 ? to : NONE;
        return 1;
    }

    int player(int post, int doubles, int desk) {
        if (!in(post, 0, 5) || !in(doubles, 0, 63) || !in(desk, 1, 9)) {
            return BAD;
        }
        if (players.size() == 10) {
            return FULL;
        }
        Player p = new Player();
        p.post = post;
        p.doubles = doubles;
        p.desk = desk;
        players.add(p);
        return players.size() - 1;
    }

    int leave(int player, int from, int to) {
        if (!has(players, player) || !span(from, to)) {
            return BAD;
        }
        List<int[]> leaves = players.get(player).leaves;
        if (leaves.size() == 6) {
            return FULL;
        }
        leaves.add(new int[] {from, to});
        return leaves.size();
    }

    int service(int kind, int day, int hour, int length) {
        if (!in(kind, 0, 5) || !in(day, 0, 400) || !in(hour, 0, 23) || !in(length, 1, 8)) {
            return BAD;
        }
        if (services.size() == 40) {
            return FULL;
        }
        Service s = new Service();
        s.kind = kind;
        s.day = day;
        s.hour = hour;
        s.length = length;
        services.add(s);
        return services.size() - 1;
    }

    private int need(Service s, int instrument) {
        int most = 0;
        for (int w : s.works) {
            most = Math.max(most, works.get(w).need(instrument));
        }
        return s.kind == 4 ? Math.min(1, most) : most;
    }

    /** The instruments of its chairs. */
    private List<Integer> chairs(Service s) {
        List<Integer> chairs = new ArrayList<>();
        for (int i = 0; i < 6; i++) {
            chairs.addAll(Collections.nCopies(need(s, i), i));
        }
        return chairs;
    }

    int call(int service, int work) {
        if (!has(services, service) || !has(works, work)) {
            return BAD;
        }
        Service s = services.get(service);
        if (s.seating != null || s.works.contains(work)) {
            return STATE;
        }
        s.works.add(work);
        int size = s.works.size();
        int answer = chairs(s).size() > 12 ? STATE : size > 5 ? FULL : size;
        if (answer < 0) {
            s.works.remove(size - 1);
        }
        return answer;
    }

    int workTold(int work, int what) {
        if (!has(works, work) || !in(what, 0, 5)) {
            return BAD;
        }
        Work w = works.get(work);
        return new int[] {w.minutes, w.price, w.needs, w.how, w.from, w.to}[what];
    }

    int played(int work, int day) {
        if (!has(works, work) || !in(day, 0, 400)) {
            return BAD;
        }
        Work w = works.get(work);
        return w.how == 0 || w.how == 1 && in(day, w.from, w.to) ? 1 : 0;
    }

    int playerTold(int player, int what) {
        if (!has(players, player) || !in(what, 0, 4)) {
            return BAD;
        }
        Player p = players.get(player);
        int sits = 0;
        for (Service s : services) {
            sits += sits(s, player) ? 1 : 0;
        }
        return new int[] {p.post, p.doubles, p.desk, p.leaves.size(), sits}[what];
    }

    private static boolean sits(Service s, int player) {
        return s.seating != null && s.seating.contains(player);
    }

    private static int gapsOf(Service s) {
        return s.seating == null ? NONE : Collections.frequency(s.seating, NONE);
    }

    int serviceTold(int service, int what) {
        if (!has(services, service) || what < 0) {
            return BAD;
        }
        Service s = services.get(service);
        if (what >= 8) {
            return has(s.works, what - 8) ? s.works.get(what - 8) : NONE;
        }
        return new int[] {s.kind, s.day, s.hour, s.length, s.works.size(), chairs(s).size(),
            s.seating == null ? 0 : 1, gapsOf(s)}[what];
    }

    int feed(int n, long bytes) {
        if (!in(n, 1, 8)) {
            return BAD;
        }
        if (tape.length() + n > 300) {
            return FULL;
        }
        for (int i = 0; i < n; i++) {
            tape.append((char) (bytes >>> (8 * i) & 255));
        }
        return tape.length();
    }

    int text() {
        if (texts.size() == 10) {
            return FULL;
        }
        TextModel text = new TextModel(tape.toString());
        tape.setLength(0);
        if (text.fault >= 0) {
            return -10 - text.fault;
        }
        texts.add(text);
        return texts.size() - 1;
    }

    int force(int text, int day) {
        if (!has(texts, text) || !in(day, 0, 400)) {
            return BAD;
        }
        tellings.removeIf(t -> t.text == text);
        Told told = new Told();
        told.text = text;
        told.day = day;
        tellings.add(told);
        return 1;
    }

    int inForce(int day) {
        if (!in(day, 0, 400)) {
            return BAD;
        }
        for (int i = tellings.size() - 1; i >= 0; i--) {
            if (tellings.get(i).day <= day) {
                return tellings.get(i).text;
            }
        }
        return 0;
    }

    private static int begin(Service s) {
        return 24 * s.day + s.hour;
    }

    private static boolean meet(Service a, Service b) {
        Set<Integer> hours = new HashSet<>();
        for (int i = 0; i < a.length; i++) {
            hours.add(begin(a) + i);
        }
        for (int i = 0; i < b.length; i++) {
            if (hours.contains(begin(b) + i)) {
                return true;
            }
        }
        return false;
    }

    private boolean away(int player, int day) {
        for (int[] leave : players.get(player).leaves) {
            if (in(day, leave[0], leave[1])) {
                return true;
            }
        }
        return false;
    }

    private long value(int service, int player, int instrument, int what) {
        Service s = services.get(service);
        Player p = players.get(player);
        long week = 0;
        long rest = 99;
        for (int i = 0; i < services.size(); i++) {
            Service o = services.get(i);
            if (i != service && sits(o, player)) {
                week += o.day / 7 == s.day / 7 ? o.length : 0;
                int hours = begin(s) - begin(o) - o.length;
                rest = hours >= 0 ? Math.min(rest, hours) : rest;
            }
        }
        long[] named = {s.kind, s.day % 7, s.hour, s.length, instrument, p.post, p.post == instrument ? 0 : 1, p.desk,
            week, rest};
        return texts.get(inForce(s.day)).value(what, named);
    }

    int may(int service, int player, int instrument) {
        if (!has(services, service) || !has(players, player) || !in(instrument, 0, 5)) {
            return BAD;
        }
        Service s = services.get(service);
        Player p = players.get(player);
        if (p.post != instrument && (p.doubles & 1 << instrument) == 0) {
            return 1;
        }
        if (away(player, s.day)) {
            return 2;
        }
        for (int i = 0; i < services.size(); i++) {
            if (i != service && sits(services.get(i), player) && meet(services.get(i), s)) {
                return 3;
            }
        }
        for (int k = 0; k < texts.get(inForce(s.day)).bars.size(); k++) {
            if (value(service, player, instrument, 2 + k) != 0) {
                return 4 + k;
            }
        }
        return 0;
    }

    long worth(int service, int player, int instrument, int what) {
        if (!has(services, service) || !has(players, player) || !in(instrument, 0, 5)) {
            return NO;
        }
        if (!in(what, 0, 1 + texts.get(inForce(services.get(service).day)).bars.size())) {
            return NO;
        }
        return value(service, player, instrument, what);
    }

    /** By the fewest gaps from each chair on, for each set of players that are taken. */
    private List<Integer> seating(int service) {
        List<Integer> chairs = chairs(services.get(service));
        int[][] fewest = new int[chairs.size() + 1][1024];
        boolean[][] fits = new boolean[6][players.size()];
        for (int i = 0; i < 6; i++) {
            for (int p = 0; p < players.size(); p++) {
                fits[i][p] = may(service, p, i) == 0;
            }
        }
        for (int c = chairs.size() - 1; c >= 0; c--) {
            for (int taken = 0; taken < 1024; taken++) {
                fewest[c][taken] = 1 + fewest[c + 1][taken];
                for (int p = 0; p < players.size(); p++) {
                    if ((taken & 1 << p) == 0 && fits[chairs.get(c)][p]) {
                        fewest[c][taken] = Math.min(fewest[c][taken], fewest[c + 1][taken | 1 << p]);
                    }
                }
            }
        }
        List<Integer> seating = new ArrayList<>();
        int taken = 0;
        for (int c = 0; c < chairs.size(); c++) {
            int chosen = NONE;
            for (int p = players.size() - 1; p >= 0; p--) {
                if ((taken & 1 << p) == 0 && fits[chairs.get(c)][p]
                    && fewest[c + 1][taken | 1 << p] == fewest[c][taken]) {
                    chosen = p;
                }
            }
            seating.add(chosen);
            taken |= chosen == NONE ? 0 : 1 << chosen;
        }
        return seating;
    }

    int gaps(int service) {
        return has(services, service) ? Collections.frequency(seating(service), NONE) : BAD;
    }

    int chair(int service, int chair, boolean told) {
        if (!has(services, service) || !has(chairs(services.get(service)), chair)) {
            return BAD;
        }
        List<Integer> seating = told ? services.get(service).seating : seating(service);
        return seating == null ? NONE : seating.get(chair);
    }

    int seat(int service) {
        if (!has(services, service)) {
            return BAD;
        }
        services.get(service).seating = seating(service);
        return gapsOf(services.get(service));
    }

    int rise(int service) {
        if (!has(services, service)) {
            return BAD;
        }
        if (services.get(service).seating == null) {
            return STATE;
        }
        services.get(service).seating = null;
        return 1;
    }

    long due(int player, int from, int to, int what) {
        if (!has(players, player) || !span(from, to) || !in(what, 0, 1)) {
            return NO;
        }
        long sum = 0;
        for (int i = 0; i < services.size(); i++) {
            Service s = services.get(i);
            if (in(s.day, from, to) && sits(s, player)) {
                long v = value(i, player, chairs(s).get(s.seating.indexOf(player)), what);
                v = s.kind == 5 ? v * 2 : s.kind == 3 ? v + (what == 0 ? 2 : 5) : v;
                sum += s.kind == 4 && what == 1 ? v / 2 : v;
            }
        }
        return sum;
    }

    private int wait(Service s, List<Integer> order) {
        int sum = 0;
        for (int i = 0; i < 6; i++) {
            int first = -1;
            int last = -1;
            for (int k = 0; k < order.size(); k++) {
                if (works.get(order.get(k)).need(i) > 0) {
                    first = first < 0 ? k : first;
                    last = k;
                }
            }
            for (int k = first + 1; k < last; k++) {
                Work w = works.get(order.get(k));
                sum += w.need(i) == 0 ? w.minutes * need(s, i) : 0;
            }
        }
        return sum;
    }

    private static void allOrders(List<Integer> done, List<Integer> left, List<List<Integer>> all) {
        if (left.isEmpty()) {
            all.add(new ArrayList<>(done));
        }
        for (int i = 0; i < left.size(); i++) {
            List<Integer> rest = new ArrayList<>(left);
            done.add(rest.remove(i));
            allOrders(done, rest, all);
            done.remove(done.size() - 1);
        }
    }

    private List<Integer> theOrder(Service s) {
        List<Integer> sorted = new ArrayList<>(s.works);
        Collections.sort(sorted);
        List<List<Integer>> all = new ArrayList<>();
        allOrders(new ArrayList<>(), sorted, all);
        List<Integer> best = all.get(0);
        for (List<Integer> order : all) {
            best = wait(s, order) < wait(s, best) ? order : best;
        }
        return best;
    }

    int waits(int service) {
        return has(services, service) ? wait(services.get(service), theOrder(services.get(service))) : BAD;
    }

    int order(int service, int i) {
        if (!has(services, service)) {
            return BAD;
        }
        List<Integer> order = theOrder(services.get(service));
        return has(order, i) ? order.get(i) : NONE;
    }

    private boolean isProgramme(int set, int day, int low, int high) {
        int minutes = 0;
        int[] most = new int[6];
        for (int w = 0; w < works.size(); w++) {
            if ((set & 1 << w) != 0) {
                if (played(w, day) != 1) {
                    return false;
                }
                minutes += works.get(w).minutes;
                for (int i = 0; i < 6; i++) {
                    most[i] = Math.max(most[i], works.get(w).need(i));
                }
            }
        }
        for (int p = 0; p < players.size(); p++) {
            most[players.get(p).post] -= away(p, day) ? 0 : 1;
        }
        for (int i = 0; i < 6; i++) {
            if (most[i] > 0) {
                return false;
            }
        }
        return in(minutes, low, high);
    }

    int programme(int day, int low, int high) {
        if (!in(day, 0, 400)) {
            return BAD;
        }
        int best = NONE;
        for (int set = 0; set < 1 << works.size(); set++) {
            if (isProgramme(set, day, low, high)) {
                int differ = best ^ set;
                boolean better = best == NONE || price(set) < price(best)
                    || price(set) == price(best) && (set & differ & -differ) != 0;
                best = better ? set : best;
            }
        }
        return best;
    }

    int price(int set) {
        int sum = 0;
        for (int w = 0; w < 32; w++) {
            if ((set & 1 << w) != 0) {
                if (!has(works, w)) {
                    return BAD;
                }
                sum += works.get(w).price;
            }
        }
        return sum;
    }

    int count(int what) {
        int seated = 0;
        int gaps = 0;
        for (Service s : services) {
            seated += s.seating == null ? 0 : 1;
            gaps += s.seating == null ? 0 : gapsOf(s);
        }
        int[] counts = {works.size(), players.size(), services.size(), texts.size(), tape.length(), seated, gaps};
        return in(what, 0, 6) ? counts[what] : BAD;
    }

    private int ends(int newStatus, int answer) {
        status = newStatus;
        return newStatus == 0 ? answer : -1;
    }

    int put(int tray, int what, int n) {
        boolean fits = what == 0 || what == 3 || what == 1 && has(services, n) || (what == 2 || what == 4) && in(n, 0, 400);
        if (!in(tray, 0, 5) || !fits) {
            return ends(1, -1);
        }
        Object thing = null;
        if (what == 1) {
            thing = services.get(n);
        } else if (what == 2) {
            thing = texts.get(inForce(n)).source;
        } else if (what == 3) {
            long[] pays = new long[players.size()];
            for (int p = 0; p < pays.length; p++) {
                pays[p] = due(p, 0, 400, 1);
            }
            thing = pays;
        } else if (what == 4) {
            boolean[] truths = new boolean[players.size()];
            for (int p = 0; p < truths.length; p++) {
                truths[p] = away(p, n);
            }
            thing = truths;
        }
        trays[tray] = thing;
        return ends(0, 1);
    }

    private static boolean isUnder(int kind, int wanted) {
        return kind == wanted || kind > 0 && isUnder(ABOVE[kind], wanted);
    }

    int forge(int tray, int what, int n) {
        if (!in(tray, 0, 5) || !in(what, 0, 8) || !in(n, -100, 100)) {
            return ends(1, -1);
        }
        Object thing = trays[tray];
        try {
            return ends(0, forged(thing, what, n));
        } catch (ClassCastException e) {
            return ends(11, -1);
        } catch (NullPointerException e) {
            return ends(10, -1);
        } catch (IndexOutOfBoundsException e) {
            return ends(12, -1);
        } catch (NegativeArraySizeException e) {
            return ends(13, -1);
        } catch (ArrayStoreException e) {
            return ends(14, -1);
        } catch (ArithmeticException e) {
            return ends(15, -1);
        }
    }

    /** The machine itself is the host here; the class under test asks first. */
    private static int forged(Object thing, int what, int n) {
        switch (what) {
            case 0:
                if (thing instanceof Service && !isUnder(((Service) thing).kind, (n + 600) % 6)) {
                    throw new ClassCastException();
                }
                return ((Service) thing).day;
            case 1: return ((String) thing).getBytes(java.nio.charset.StandardCharsets.ISO_8859_1)[n];
            case 2: return (int) ((long[]) thing)[n];
            case 3: return ((boolean[]) thing)[n] ? 1 : 0;
            case 4: return new byte[n].length;
            case 5:
                long[] row = new long[5];
                System.arraycopy((long[]) thing, 1, row, n, n);
                long sum = 0;
                for (long pay : row) {
                    sum += pay;
                }
                return (int) sum;
            case 6:
                if (thing != null && !(thing instanceof Service && isUnder(((Service) thing).kind, 1))) {
                    throw new ArrayStoreException();
                }
                return thing == null ? 0 : ((Service) thing).day;
            case 7: return 1000 / n;
            default: throw new NullPointerException();
        }
    }

    int status() {
        return status;
    }
}
