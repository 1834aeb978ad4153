import java.util.Arrays;

/** An orchestra's year, as ../shared/DOC.md promises it. */
public final class OrchestraYear {
    public static final int NONE = -1, BAD = -2, STATE = -3, FULL = -4;
    public static final long NO = -4611686018427387904L;

    private static final int MOST_WORKS = 12;
    private static final int MOST_PLAYERS = 10;
    private static final int MOST_SERVICES = 40;
    private static final int MOST_TEXTS = 10;
    private static final int MOST_LEAVES = 6;
    private static final int MOST_CALLED = 5;
    private static final int MOST_CHAIRS = 12;
    private static final int MOST_BYTES = 300;
    private static final int MOST_BARS = 8;
    private static final int MOST_OPEN = 6;
    private static final int MOST_MINUTES = 90;
    private static final int MOST_PRICE = 1000;
    private static final int MOST_NEEDS = 4095;
    private static final int MOST_DESK = 9;
    private static final int MOST_LONG = 8;
    private static final int INSTRUMENTS = 6;
    private static final int LAST_DAY = 400;
    private static final int DAYS_OF_WEEK = 7;
    private static final int HOURS_OF_DAY = 24;
    private static final int MOST_REST = 99;

    private static final int OURS = 0;
    private static final int HIRED = 1;
    private static final int LOST = 2;

    private static final int REHEARSAL = 1;
    private static final int AWAY = 3;
    private static final int SCHOOL = 4;
    private static final int RECORD = 5;
    private static final int[] KIND_ABOVE = {NONE, 0, 0, 2, 0, 1};

    private static final int HOURS = 0;
    private static final int PAY = 1;

    private static final int LACKS_INSTRUMENT = 1;
    private static final int ON_LEAVE = 2;
    private static final int SITS_ELSEWHERE = 3;
    private static final int FIRST_BAR = 4;

    private static final int TRAYS = 6;
    private static final int NOTHING = 0;
    private static final int A_SERVICE = 1;
    private static final int BYTES = 2;
    private static final int PAYS = 3;
    private static final int TRUTHS = 4;
    private static final int MOST_FORGED = 100;
    private static final int ROW_OF_PAYS = 5;
    private static final int DIVIDED = 1000;

    private static final int DONE = 0;
    private static final int NO_SUCH_NUMBER = 1;
    private static final int IS_NOTHING = 10;
    private static final int OTHER_SORT = 11;
    private static final int PLACE_OUTSIDE = 12;
    private static final int SIZE_BELOW = 13;
    private static final int DOES_NOT_FIT = 14;
    private static final int DIVIDED_BY_0 = 15;

    /** Above every wait and every programme's rank. */
    private static final int BEYOND_ALL = 1 << 30;

    private static final String FIRST_TEXT = "count long ; pay long * 10 ;";

    private final Work[] works = new Work[MOST_WORKS];
    private final Player[] players = new Player[MOST_PLAYERS];
    private final Service[] services = new Service[MOST_SERVICES];
    private final Text[] texts = new Text[MOST_TEXTS];
    private final Tray[] trays = new Tray[TRAYS];
    private final byte[] tape = new byte[MOST_BYTES];
    private final Reader reader = new Reader();
    private final Reckoner reckoner = new Reckoner();
    private final Seater seater = new Seater();
    private final Orderer orderer = new Orderer();
    private final Chooser chooser = new Chooser();
    private int workCount = 0;
    private int playerCount = 0;
    private int serviceCount = 0;
    private int textCount = 0;
    private int tapeSize = 0;
    private int tellings = 0;
    private int hostStatus = DONE;

    public OrchestraYear() {
        for (int i = 0; i < TRAYS; i++) {
            trays[i] = new Tray();
        }
        for (int i = 0; i < FIRST_TEXT.length(); i++) {
            tape[i] = (byte) FIRST_TEXT.charAt(i);
        }
        tapeSize = FIRST_TEXT.length();
        reader.readTape(tape, tapeSize);
        keepReadText();
        tapeSize = 0;
        tellForce(0, 0);
    }

    // ---- works, players, services

    public int work(int minutes, int price, int needs) {
        if (!isWithin(minutes, 1, MOST_MINUTES) || !isWithin(price, 0, MOST_PRICE) || !isWithin(needs, 0, MOST_NEEDS)) {
            return BAD;
        }
        if (workCount >= MOST_WORKS) {
            return FULL;
        }
        works[workCount] = new Work(minutes, price, needs);
        workCount++;
        return workCount - 1;
    }

    public int score(int work, int how, int from, int to) {
        Work scored = findWork(work);
        if (scored == null || !isWithin(how, OURS, LOST)) {
            return BAD;
        }
        if (how == HIRED && !isSpan(from, to)) {
            return BAD;
        }
        scored.state = how;
        scored.hiredFrom = how == HIRED ? from : NONE;
        scored.hiredTo = how == HIRED ? to : NONE;
        return 1;
    }

    public int player(int post, int doubles, int desk) {
        if (!isInstrument(post) || !isWithin(doubles, 0, (1 << INSTRUMENTS) - 1) || !isWithin(desk, 1, MOST_DESK)) {
            return BAD;
        }
        if (playerCount >= MOST_PLAYERS) {
            return FULL;
        }
        players[playerCount] = new Player(post, doubles, desk);
        playerCount++;
        return playerCount - 1;
    }

    public int leave(int player, int from, int to) {
        Player leaving = findPlayer(player);
        if (leaving == null || !isSpan(from, to)) {
            return BAD;
        }
        if (leaving.leaveCount >= MOST_LEAVES) {
            return FULL;
        }
        leaving.addLeave(from, to);
        return leaving.leaveCount;
    }

    public int service(int kind, int day, int hour, int length) {
        if (!isWithin(kind, 0, KIND_ABOVE.length - 1) || !isDay(day)) {
            return BAD;
        }
        if (!isWithin(hour, 0, HOURS_OF_DAY - 1) || !isWithin(length, 1, MOST_LONG)) {
            return BAD;
        }
        if (serviceCount >= MOST_SERVICES) {
            return FULL;
        }
        services[serviceCount] = new Service(kind, day, hour, length);
        serviceCount++;
        return serviceCount - 1;
    }

    public int call(int service, int work) {
        Service calling = findService(service);
        Work called = findWork(work);
        if (calling == null || called == null) {
            return BAD;
        }
        if (calling.seated || calling.hasWork(work) || calling.chairsWith(called) > MOST_CHAIRS) {
            return STATE;
        }
        if (calling.workCount >= MOST_CALLED) {
            return FULL;
        }
        calling.addWork(work, called);
        return calling.workCount;
    }

    public int workTold(int work, int what) {
        Work told = findWork(work);
        if (told == null) {
            return BAD;
        }
        switch (what) {
            case 0: return told.minutes;
            case 1: return told.cost;
            case 2: return told.needs;
            case 3: return told.state;
            case 4: return told.hiredFrom;
            case 5: return told.hiredTo;
            default: return BAD;
        }
    }

    public int played(int work, int day) {
        Work asked = findWork(work);
        if (asked == null || !isDay(day)) {
            return BAD;
        }
        return asked.canBePlayed(day) ? 1 : 0;
    }

    public int playerTold(int player, int what) {
        Player told = findPlayer(player);
        if (told == null) {
            return BAD;
        }
        switch (what) {
            case 0: return told.post;
            case 1: return told.doubles;
            case 2: return told.desk;
            case 3: return told.leaveCount;
            case 4: return countSittings(player);
            default: return BAD;
        }
    }

    public int serviceTold(int service, int what) {
        Service told = findService(service);
        if (told == null || what < 0) {
            return BAD;
        }
        switch (what) {
            case 0: return told.kind;
            case 1: return told.day;
            case 2: return told.hour;
            case 3: return told.length;
            case 4: return told.workCount;
            case 5: return told.chairCount;
            case 6: return told.seated ? 1 : 0;
            case 7: return told.seated ? told.gapCount : NONE;
            default: return told.workAt(what - 8);
        }
    }

    // ---- texts

    public int feed(int n, long bytes) {
        if (!isWithin(n, 1, 8)) {
            return BAD;
        }
        if (tapeSize + n > MOST_BYTES) {
            return FULL;
        }
        for (int i = 0; i < n; i++) {
            tape[tapeSize + i] = (byte) (bytes >> (8 * i));
        }
        tapeSize += n;
        return tapeSize;
    }

    public int text() {
        if (textCount >= MOST_TEXTS) {
            return FULL;
        }
        int fault = reader.readTape(tape, tapeSize);
        if (fault == NONE) {
            keepReadText();
        }
        tapeSize = 0;
        return fault == NONE ? textCount - 1 : -10 - fault;
    }

    public int force(int text, int day) {
        if (!isWithin(text, 0, textCount - 1) || !isDay(day)) {
            return BAD;
        }
        tellForce(text, day);
        return 1;
    }

    public int inForce(int day) {
        return isDay(day) ? findInForce(day) : BAD;
    }

    // ---- chairs

    public int may(int service, int player, int instrument) {
        Service asked = findService(service);
        if (asked == null || findPlayer(player) == null || !isInstrument(instrument)) {
            return BAD;
        }
        return findHindrance(asked, player, instrument);
    }

    public long worth(int service, int player, int instrument, int what) {
        Service asked = findService(service);
        if (asked == null || findPlayer(player) == null || !isInstrument(instrument)) {
            return NO;
        }
        Text inForce = texts[findInForce(asked.day)];
        if (!isWithin(what, 0, inForce.bars + 1)) {
            return NO;
        }
        learn(asked, player, instrument);
        return reckoner.reckon(inForce, what < 2 ? inForce.bars + what : what - 2);
    }

    public int gaps(int service) {
        Service asked = findService(service);
        if (asked == null) {
            return BAD;
        }
        findSeating(asked);
        return seater.countGaps();
    }

    public int chair(int service, int chair, boolean told) {
        Service asked = findService(service);
        if (asked == null || !isWithin(chair, 0, asked.chairCount - 1)) {
            return BAD;
        }
        if (told) {
            return asked.seated ? asked.seating[chair] : NONE;
        }
        findSeating(asked);
        return seater.holder[chair];
    }

    public int seat(int service) {
        Service asked = findService(service);
        if (asked == null) {
            return BAD;
        }
        findSeating(asked);
        asked.sitDown(seater.holder, seater.countGaps());
        return asked.gapCount;
    }

    public int rise(int service) {
        Service asked = findService(service);
        if (asked == null) {
            return BAD;
        }
        if (!asked.seated) {
            return STATE;
        }
        asked.standUp();
        return 1;
    }

    public long due(int player, int from, int to, int what) {
        if (findPlayer(player) == null || !isSpan(from, to) || !isWithin(what, HOURS, PAY)) {
            return NO;
        }
        return sumDue(player, from, to, what);
    }

    // ---- orders, programmes

    public int waits(int service) {
        Service asked = findService(service);
        if (asked == null) {
            return BAD;
        }
        orderer.findOrder(asked, works);
        return orderer.leastWait;
    }

    public int order(int service, int i) {
        Service asked = findService(service);
        if (asked == null) {
            return BAD;
        }
        if (!isWithin(i, 0, asked.workCount - 1)) {
            return NONE;
        }
        orderer.findOrder(asked, works);
        return orderer.best[i];
    }

    public int programme(int day, int low, int high) {
        if (!isDay(day)) {
            return BAD;
        }
        chooser.begin();
        for (int i = 0; i < playerCount; i++) {
            if (!players[i].hasLeave(day)) {
                chooser.addPost(players[i].post);
            }
        }
        for (int i = 0; i < workCount; i++) {
            if (works[i].canBePlayed(day)) {
                chooser.addWork(i, works[i]);
            }
        }
        return chooser.choose(low, high);
    }

    public int price(int works) {
        if (!isWithin(works, 0, (1 << workCount) - 1)) {
            return BAD;
        }
        int sum = 0;
        for (int i = 0; i < workCount; i++) {
            if ((works >> i & 1) == 1) {
                sum += this.works[i].cost;
            }
        }
        return sum;
    }

    public int count(int what) {
        switch (what) {
            case 0: return workCount;
            case 1: return playerCount;
            case 2: return serviceCount;
            case 3: return textCount;
            case 4: return tapeSize;
            case 5: return countSeated();
            case 6: return countSeatedGaps();
            default: return BAD;
        }
    }

    public int put(int tray, int what, int n) {
        if (!isWithin(tray, 0, TRAYS - 1) || !isPuttable(what, n)) {
            return hostRefuses(NO_SUCH_NUMBER);
        }
        Tray filled = trays[tray];
        filled.sort = what;
        switch (what) {
            case A_SERVICE:
                filled.service = services[n];
                break;
            case BYTES:
                putBytes(filled, n);
                break;
            case PAYS:
                putPays(filled);
                break;
            case TRUTHS:
                putTruths(filled, n);
                break;
            default:
                break;
        }
        return hostAnswers(1);
    }

    public int forge(int tray, int what, int n) {
        if (!isWithin(tray, 0, TRAYS - 1) || !isWithin(n, -MOST_FORGED, MOST_FORGED)) {
            return hostRefuses(NO_SUCH_NUMBER);
        }
        Tray forged = trays[tray];
        switch (what) {
            case 0: return forgeDay(forged, Math.floorMod(n, KIND_ABOVE.length));
            case 1: return forgePlace(forged, BYTES, n);
            case 2: return forgePlace(forged, PAYS, n);
            case 3: return forgePlace(forged, TRUTHS, n);
            case 4: return n < 0 ? hostRefuses(SIZE_BELOW) : hostAnswers(n);
            case 5: return forgeCopy(forged, n);
            case 6: return forgeLaid(forged);
            case 7: return n == 0 ? hostRefuses(DIVIDED_BY_0) : hostAnswers(DIVIDED / n);
            case 8: return hostRefuses(IS_NOTHING);
            default: return hostRefuses(NO_SUCH_NUMBER);
        }
    }

    public int status() {
        return hostStatus;
    }

    // ---- what numbers stand for

    private static boolean isWithin(int number, int least, int most) {
        return number >= least && number <= most;
    }

    private static boolean isDay(int day) {
        return isWithin(day, 0, LAST_DAY);
    }

    private static boolean isSpan(int from, int to) {
        return isDay(from) && isDay(to) && from <= to;
    }

    private static boolean isInstrument(int instrument) {
        return isWithin(instrument, 0, INSTRUMENTS - 1);
    }

    private Work findWork(int number) {
        return isWithin(number, 0, workCount - 1) ? works[number] : null;
    }

    private Player findPlayer(int number) {
        return isWithin(number, 0, playerCount - 1) ? players[number] : null;
    }

    private Service findService(int number) {
        return isWithin(number, 0, serviceCount - 1) ? services[number] : null;
    }

    // ---- counts

    private int countSittings(int player) {
        int sittings = 0;
        for (int i = 0; i < serviceCount; i++) {
            if (services[i].sits(player)) {
                sittings++;
            }
        }
        return sittings;
    }

    private int countSeated() {
        int seated = 0;
        for (int i = 0; i < serviceCount; i++) {
            if (services[i].seated) {
                seated++;
            }
        }
        return seated;
    }

    private int countSeatedGaps() {
        int gaps = 0;
        for (int i = 0; i < serviceCount; i++) {
            if (services[i].seated) {
                gaps += services[i].gapCount;
            }
        }
        return gaps;
    }

    // ---- texts and what they say

    private void keepReadText() {
        byte[] bytes = Arrays.copyOf(tape, tapeSize);
        int[] code = Arrays.copyOf(reader.code, reader.codeSize);
        int[] ends = Arrays.copyOf(reader.ends, reader.parts);
        texts[textCount] = new Text(bytes, code, ends);
        textCount++;
    }

    private void tellForce(int text, int day) {
        tellings++;
        texts[text].forceDay = day;
        texts[text].toldAs = tellings;
    }

    private int findInForce(int day) {
        int found = 0;
        int latest = 0;
        for (int i = 0; i < textCount; i++) {
            Text text = texts[i];
            if (text.toldAs > latest && text.forceDay <= day) {
                found = i;
                latest = text.toldAs;
            }
        }
        return found;
    }

    /** Lays out what the names of a text mean for these three, ahead of reckoning. */
    private void learn(Service service, int player, int instrument) {
        int week = 0;
        int rest = MOST_REST;
        for (int i = 0; i < serviceCount; i++) {
            Service other = services[i];
            if (other == service || !other.sits(player)) {
                continue;
            }
            if (other.day / DAYS_OF_WEEK == service.day / DAYS_OF_WEEK) {
                week += other.length;
            }
            if (other.ends() <= service.begins()) {
                rest = Math.min(rest, service.begins() - other.ends());
            }
        }
        reckoner.learnService(service);
        reckoner.learnPlayer(players[player], instrument);
        reckoner.learnSittings(week, rest);
    }

    // ---- who sits where

    private int findHindrance(Service service, int player, int instrument) {
        Player asked = players[player];
        if (!asked.plays(instrument)) {
            return LACKS_INSTRUMENT;
        }
        if (asked.hasLeave(service.day)) {
            return ON_LEAVE;
        }
        if (sitsInMeeting(service, player)) {
            return SITS_ELSEWHERE;
        }
        Text inForce = texts[findInForce(service.day)];
        learn(service, player, instrument);
        for (int k = 0; k < inForce.bars; k++) {
            if (reckoner.reckon(inForce, k) != 0) {
                return FIRST_BAR + k;
            }
        }
        return 0;
    }

    private boolean sitsInMeeting(Service service, int player) {
        for (int i = 0; i < serviceCount; i++) {
            Service other = services[i];
            if (other != service && other.sits(player) && other.meets(service)) {
                return true;
            }
        }
        return false;
    }

    private void findSeating(Service service) {
        seater.begin(service.chairCount);
        int chair = 0;
        for (int instrument = 0; instrument < INSTRUMENTS; instrument++) {
            int fitting = service.needs[instrument] == 0 ? 0 : findFitting(service, instrument);
            for (int i = 0; i < service.needs[instrument]; i++) {
                seater.allow(chair, fitting);
                chair++;
            }
        }
        seater.seatAll();
    }

    private int findFitting(Service service, int instrument) {
        int fitting = 0;
        for (int i = 0; i < playerCount; i++) {
            if (findHindrance(service, i, instrument) == 0) {
                fitting |= 1 << i;
            }
        }
        return fitting;
    }

    private long sumDue(int player, int from, int to, int what) {
        long sum = 0;
        for (int i = 0; i < serviceCount; i++) {
            Service service = services[i];
            if (isWithin(service.day, from, to) && service.sits(player)) {
                sum += findDue(service, player, what);
            }
        }
        return sum;
    }

    private long findDue(Service service, int player, int what) {
        Text inForce = texts[findInForce(service.day)];
        learn(service, player, service.instrumentOf(player));
        long plain = reckoner.reckon(inForce, inForce.bars + what);
        switch (service.kind) {
            case RECORD: return 2 * plain;
            case AWAY: return plain + (what == HOURS ? 2 : 5);
            case SCHOOL: return what == HOURS ? plain : plain / 2;
            default: return plain;
        }
    }

    // ---- trays

    private int hostRefuses(int why) {
        hostStatus = why;
        return NONE;
    }

    private int hostAnswers(int answer) {
        hostStatus = DONE;
        return answer;
    }

    private boolean isPuttable(int what, int n) {
        switch (what) {
            case NOTHING: return true;
            case A_SERVICE: return isWithin(n, 0, serviceCount - 1);
            case BYTES: return isDay(n);
            case PAYS: return true;
            case TRUTHS: return isDay(n);
            default: return false;
        }
    }

    private void putBytes(Tray tray, int day) {
        tray.bytes = texts[findInForce(day)].bytes;
        tray.size = tray.bytes.length;
    }

    private void putPays(Tray tray) {
        for (int i = 0; i < playerCount; i++) {
            tray.pays[i] = sumDue(i, 0, LAST_DAY, PAY);
        }
        tray.size = playerCount;
    }

    private void putTruths(Tray tray, int day) {
        tray.truths = 0;
        for (int i = 0; i < playerCount; i++) {
            if (players[i].hasLeave(day)) {
                tray.truths |= 1 << i;
            }
        }
        tray.size = playerCount;
    }

    private int forgeDay(Tray tray, int kind) {
        if (tray.sort == NOTHING) {
            return hostRefuses(IS_NOTHING);
        }
        if (!tray.holdsKind(kind)) {
            return hostRefuses(OTHER_SORT);
        }
        return hostAnswers(tray.service.day);
    }

    private int forgePlace(Tray tray, int sort, int place) {
        if (tray.sort == NOTHING) {
            return hostRefuses(IS_NOTHING);
        }
        if (tray.sort != sort) {
            return hostRefuses(OTHER_SORT);
        }
        if (!isWithin(place, 0, tray.size - 1)) {
            return hostRefuses(PLACE_OUTSIDE);
        }
        return hostAnswers(tray.elementAt(place));
    }

    /** The new row holds nothing but the copied PAYS, so their sum is the row's. */
    private int forgeCopy(Tray tray, int n) {
        if (tray.sort == NOTHING) {
            return hostRefuses(IS_NOTHING);
        }
        if (tray.sort != PAYS) {
            return hostRefuses(OTHER_SORT);
        }
        if (n < 0 || 1 + n > tray.size || n + n > ROW_OF_PAYS) {
            return hostRefuses(PLACE_OUTSIDE);
        }
        long sum = 0;
        for (int i = 1; i <= n; i++) {
            sum += tray.pays[i];
        }
        return hostAnswers((int) sum);
    }

    private int forgeLaid(Tray tray) {
        if (tray.sort == NOTHING) {
            return hostAnswers(0);
        }
        if (!tray.holdsKind(REHEARSAL)) {
            return hostRefuses(DOES_NOT_FIT);
        }
        return hostAnswers(tray.service.day);
    }

    private static final class Work {
        private final int minutes;
        private final int cost;
        private final int needs;
        private int state = OURS;
        private int hiredFrom = NONE;
        private int hiredTo = NONE;

        Work(int minutes, int cost, int needs) {
            this.minutes = minutes;
            this.cost = cost;
            this.needs = needs;
        }

        int needOf(int instrument) {
            return needs >> (2 * instrument) & 3;
        }

        boolean canBePlayed(int day) {
            return state == OURS || state == HIRED && isWithin(day, hiredFrom, hiredTo);
        }
    }

    private static final class Player {
        private final int post;
        private final int doubles;
        private final int desk;
        private final int[] leaveFrom = new int[MOST_LEAVES];
        private final int[] leaveTo = new int[MOST_LEAVES];
        private int leaveCount = 0;

        Player(int post, int doubles, int desk) {
            this.post = post;
            this.doubles = doubles;
            this.desk = desk;
        }

        void addLeave(int from, int to) {
            if (leaveCount < MOST_LEAVES) {
                leaveFrom[leaveCount] = from;
                leaveTo[leaveCount] = to;
                leaveCount++;
            }
        }

        boolean hasLeave(int day) {
            for (int i = 0; i < leaveCount; i++) {
                if (isWithin(day, leaveFrom[i], leaveTo[i])) {
                    return true;
                }
            }
            return false;
        }

        boolean plays(int instrument) {
            return instrument == post || (doubles >> instrument & 1) == 1;
        }
    }

    private static final class Service {
        private final int kind;
        private final int day;
        private final int hour;
        private final int length;
        private final int[] called = new int[MOST_CALLED];
        private final int[] needs = new int[INSTRUMENTS];
        private final int[] seating = new int[MOST_CHAIRS];
        private int workCount = 0;
        private int chairCount = 0;
        private int gapCount = 0;
        private int sitters = 0;
        private boolean seated = false;

        Service(int kind, int day, int hour, int length) {
            this.kind = kind;
            this.day = day;
            this.hour = hour;
            this.length = length;
        }

        int begins() {
            return HOURS_OF_DAY * day + hour;
        }

        int ends() {
            return begins() + length;
        }

        boolean meets(Service other) {
            return ends() > other.begins() && other.ends() > begins();
        }

        boolean isOfKind(int wanted) {
            int above = kind;
            for (int i = 0; i < KIND_ABOVE.length && above != NONE; i++) {
                if (above == wanted) {
                    return true;
                }
                above = KIND_ABOVE[above];
            }
            return false;
        }

        boolean hasWork(int number) {
            for (int i = 0; i < workCount; i++) {
                if (called[i] == number) {
                    return true;
                }
            }
            return false;
        }

        int workAt(int place) {
            return isWithin(place, 0, workCount - 1) ? called[place] : NONE;
        }

        int needWith(Work work, int instrument) {
            int most = kind == SCHOOL ? 1 : 3;
            return Math.max(needs[instrument], Math.min(most, work.needOf(instrument)));
        }

        int chairsWith(Work work) {
            int sum = 0;
            for (int i = 0; i < INSTRUMENTS; i++) {
                sum += needWith(work, i);
            }
            return sum;
        }

        void addWork(int number, Work work) {
            if (workCount >= MOST_CALLED) {
                return;
            }
            called[workCount] = number;
            workCount++;
            chairCount = chairsWith(work);
            for (int i = 0; i < INSTRUMENTS; i++) {
                needs[i] = needWith(work, i);
            }
        }

        void sitDown(int[] holders, int gaps) {
            sitters = 0;
            for (int i = 0; i < chairCount; i++) {
                seating[i] = holders[i];
                if (holders[i] != NONE) {
                    sitters |= 1 << holders[i];
                }
            }
            gapCount = gaps;
            seated = true;
        }

        void standUp() {
            sitters = 0;
            gapCount = 0;
            seated = false;
        }

        boolean sits(int player) {
            return (sitters >> player & 1) == 1;
        }

        /** The instrument of the chair on which a player of the seating sits. */
        int instrumentOf(int player) {
            int chair = 0;
            for (int instrument = 0; instrument < INSTRUMENTS; instrument++) {
                for (int i = 0; i < needs[instrument]; i++) {
                    if (seating[chair] == player) {
                        return instrument;
                    }
                    chair++;
                }
            }
            return 0;
        }
    }

    /** A text in postfix code: its bars, count and pay are the parts, in that order. */
    private static final class Text {
        private final byte[] bytes;
        private final int[] code;
        private final int[] ends;
        private final int bars;
        private int forceDay = 0;
        private int toldAs = 0;

        Text(byte[] bytes, int[] code, int[] ends) {
            this.bytes = bytes;
            this.code = code;
            this.ends = ends;
            this.bars = ends.length - 2;
        }

        int startOf(int part) {
            return isWithin(part, 1, ends.length) ? ends[part - 1] : 0;
        }

        int endOf(int part) {
            return isWithin(part, 0, ends.length - 1) ? Math.min(ends[part], code.length) : 0;
        }
    }

    /** The tokens, and the code: a number stands for itself, a token t as -1 - t. */
    private static final class Token {
        private static final int KIND = 0;
        private static final int WEEKDAY = 1;
        private static final int HOUR = 2;
        private static final int LONG = 3;
        private static final int CHAIR = 4;
        private static final int POST = 5;
        private static final int DOUBLE = 6;
        private static final int DESK = 7;
        private static final int WEEK = 8;
        private static final int REST = 9;
        private static final int NAMES = 10;
        private static final int BAR = 10;
        private static final int COUNT = 11;
        private static final int PAY = 12;
        private static final int OR = 13;
        private static final int AND = 14;
        private static final int NOT = 15;
        private static final int WORDS = 16;
        private static final int OPEN = 16;
        private static final int CLOSE = 17;
        private static final int SEMICOLON = 18;
        private static final int PLUS = 19;
        private static final int MINUS = 20;
        private static final int TIMES = 21;
        private static final int LESS = 22;
        private static final int EQUAL = 23;
        private static final int NUMBER = 24;
        private static final int END = 25;
        private static final int WRONG = 26;
        private static final int NEGATE = 27;

        private static final int WORD_SIZE = 7;
        private static final int NUMBER_SIZE = 5;
        /** Each word takes WORD_SIZE places; the words and the signs stand in the order of their tokens. */
        private static final String SPELLED =
            "kind   weekdayhour   long   chair  post   double desk   week   rest   bar    count  pay    or     and    not    ";
        private static final String SIGNS = "();+-*<=";
    }

    /** Reads a tape to postfix code. Once a fault is found, it reads on no more. */
    private static final class Reader {
        private final int[] code = new int[MOST_BYTES];
        private final int[] ends = new int[MOST_BARS + 2];
        private byte[] tape = null;
        private int size = 0;
        private int codeSize = 0;
        private int parts = 0;
        private int token = Token.END;
        private int number = 0;
        private int place = 0;
        private int next = 0;
        private int open = 0;
        private int fault = NONE;

        /** The place of the fault; NONE if there is none. */
        int readTape(byte[] bytes, int byteCount) {
            tape = bytes;
            size = byteCount;
            codeSize = 0;
            parts = 0;
            next = 0;
            open = 0;
            fault = NONE;
            advance();
            for (int i = 0; i < MOST_BARS && token == Token.BAR; i++) {
                readPart(Token.BAR);
            }
            readPart(Token.COUNT);
            readPart(Token.PAY);
            expect(Token.END);
            return fault;
        }

        private void readPart(int key) {
            expect(key);
            readOr();
            expect(Token.SEMICOLON);
            if (parts < ends.length) {
                ends[parts] = codeSize;
                parts++;
            }
        }

        private void readOr() {
            readAnd();
            for (int i = 0; i < MOST_BYTES && token == Token.OR; i++) {
                advance();
                readAnd();
                emitToken(Token.OR);
            }
        }

        private void readAnd() {
            readNot();
            for (int i = 0; i < MOST_BYTES && token == Token.AND; i++) {
                advance();
                readNot();
                emitToken(Token.AND);
            }
        }

        private void readNot() {
            if (token == Token.NOT) {
                if (openOne()) {
                    readNot();
                    open--;
                    emitToken(Token.NOT);
                }
                return;
            }
            readSum();
            if (token == Token.LESS || token == Token.EQUAL) {
                int sign = token;
                advance();
                readSum();
                emitToken(sign);
            }
        }

        private void readSum() {
            readTerm();
            for (int i = 0; i < MOST_BYTES && (token == Token.PLUS || token == Token.MINUS); i++) {
                int sign = token;
                advance();
                readTerm();
                emitToken(sign);
            }
        }

        private void readTerm() {
            readOne();
            for (int i = 0; i < MOST_BYTES && token == Token.TIMES; i++) {
                advance();
                readOne();
                emitToken(Token.TIMES);
            }
        }

        private void readOne() {
            if (token == Token.NUMBER) {
                emit(number);
                advance();
            } else if (token < Token.NAMES) {
                emitToken(token);
                advance();
            } else if (token == Token.MINUS && openOne()) {
                readOne();
                open--;
                emitToken(Token.NEGATE);
            } else if (token == Token.OPEN && openOne()) {
                readOr();
                expect(Token.CLOSE);
                open--;
            } else {
                fail();
            }
        }

        /** Refusing here is also what keeps the reading methods from calling one another too deep. */
        private boolean openOne() {
            if (open >= MOST_OPEN) {
                fail();
                return false;
            }
            open++;
            advance();
            return true;
        }

        private void emitToken(int emitted) {
            emit(-1 - emitted);
        }

        private void emit(int step) {
            if (codeSize < code.length) {
                code[codeSize] = step;
                codeSize++;
            }
        }

        private void expect(int wanted) {
            if (token == wanted) {
                advance();
            } else {
                fail();
            }
        }

        private void fail() {
            if (fault == NONE) {
                fault = place;
            }
            token = Token.WRONG;
        }

        private void advance() {
            if (fault != NONE) {
                return;
            }
            while (next < size && isBlank(tape[next])) {
                next++;
            }
            place = next;
            if (next >= size) {
                token = Token.END;
            } else if (isLetter(tape[next])) {
                takeWord();
            } else if (isDigit(tape[next])) {
                takeNumber();
            } else {
                takeSign();
            }
        }

        private void takeWord() {
            while (next < size && isLetter(tape[next])) {
                next++;
            }
            token = Token.WRONG;
            for (int word = 0; word < Token.WORDS; word++) {
                if (spells(word)) {
                    token = word;
                }
            }
        }

        private boolean spells(int word) {
            if (next - place > Token.WORD_SIZE) {
                return false;
            }
            for (int i = 0; i < Token.WORD_SIZE; i++) {
                char given = place + i < next ? (char) tape[place + i] : ' ';
                if (given != Token.SPELLED.charAt(word * Token.WORD_SIZE + i)) {
                    return false;
                }
            }
            return true;
        }

        private void takeNumber() {
            number = 0;
            while (next < size && isDigit(tape[next])) {
                number = 10 * number + tape[next] - '0';
                next++;
            }
            token = next - place > Token.NUMBER_SIZE ? Token.WRONG : Token.NUMBER;
        }

        private void takeSign() {
            int sign = Token.SIGNS.indexOf((char) (tape[next] & 255));
            token = sign < 0 ? Token.WRONG : Token.OPEN + sign;
            next++;
        }

        private static boolean isBlank(byte taken) {
            return taken == 32 || taken == 10;
        }

        private static boolean isLetter(byte taken) {
            return taken >= 'a' && taken <= 'z';
        }

        private static boolean isDigit(byte taken) {
            return taken >= '0' && taken <= '9';
        }
    }

    /** Reckons parts of texts for what it has learnt. */
    private static final class Reckoner {
        private static final int STACK_SIZE = 64;

        private final long[] named = new long[Token.NAMES];
        private final long[] stack = new long[STACK_SIZE];
        private int top = 0;

        void learnService(Service service) {
            named[Token.KIND] = service.kind;
            named[Token.WEEKDAY] = service.day % DAYS_OF_WEEK;
            named[Token.HOUR] = service.hour;
            named[Token.LONG] = service.length;
        }

        void learnPlayer(Player player, int instrument) {
            named[Token.CHAIR] = instrument;
            named[Token.POST] = player.post;
            named[Token.DOUBLE] = instrument == player.post ? 0 : 1;
            named[Token.DESK] = player.desk;
        }

        void learnSittings(int week, int rest) {
            named[Token.WEEK] = week;
            named[Token.REST] = rest;
        }

        long reckon(Text text, int part) {
            top = 0;
            int end = text.endOf(part);
            for (int i = text.startOf(part); i < end; i++) {
                step(text.code[i]);
            }
            return pop();
        }

        private void step(int code) {
            int token = -1 - code;
            if (code >= 0) {
                push(code);
            } else if (token < Token.NAMES) {
                push(named[token]);
            } else if (token == Token.NOT) {
                push(pop() == 0 ? 1 : 0);
            } else if (token == Token.NEGATE) {
                push(-pop());
            } else {
                long right = pop();
                push(join(token, pop(), right));
            }
        }

        private static long join(int token, long left, long right) {
            switch (token) {
                case Token.OR: return left != 0 || right != 0 ? 1 : 0;
                case Token.AND: return left != 0 && right != 0 ? 1 : 0;
                case Token.LESS: return left < right ? 1 : 0;
                case Token.EQUAL: return left == right ? 1 : 0;
                case Token.PLUS: return left + right;
                case Token.MINUS: return left - right;
                default: return left * right;
            }
        }

        private void push(long value) {
            if (top < STACK_SIZE) {
                stack[top] = value;
                top++;
            }
        }

        private long pop() {
            if (top <= 0) {
                return 0;
            }
            top--;
            return stack[top];
        }
    }

    /** Finds THE SEATING: first one with the fewest gaps, then the least player for each chair in turn. */
    private static final class Seater {
        private final int[] fitting = new int[MOST_CHAIRS];
        private final int[] holder = new int[MOST_CHAIRS];
        private final int[] chairOf = new int[MOST_PLAYERS];
        private final int[] queue = new int[MOST_CHAIRS];
        private final int[] cameFrom = new int[MOST_PLAYERS];
        private int chairCount = 0;
        private int settled = 0;

        void begin(int chairs) {
            chairCount = Math.min(chairs, MOST_CHAIRS);
            settled = 0;
            Arrays.fill(fitting, 0);
            Arrays.fill(holder, NONE);
            Arrays.fill(chairOf, NONE);
        }

        void allow(int chair, int players) {
            if (isWithin(chair, 0, chairCount - 1)) {
                fitting[chair] = players;
            }
        }

        void seatAll() {
            boolean grown = true;
            for (int i = 0; i < MOST_CHAIRS && grown; i++) {
                grown = seatOneMore(0);
            }
            for (int chair = 0; chair < chairCount; chair++) {
                settle(chair);
            }
        }

        int countGaps() {
            int gaps = 0;
            for (int chair = 0; chair < chairCount; chair++) {
                if (holder[chair] == NONE) {
                    gaps++;
                }
            }
            return gaps;
        }

        /** Seats one player more on the chairs from a first one on, if those not yet settled can so be moved. */
        private boolean seatOneMore(int first) {
            int seen = settled;
            int size = 0;
            for (int chair = first; chair < chairCount; chair++) {
                if (holder[chair] == NONE) {
                    queue[size] = chair;
                    size++;
                }
            }
            for (int i = 0; i < size; i++) {
                int open = fitting[queue[i]] & ~seen;
                seen |= open;
                for (int player = 0; player < MOST_PLAYERS; player++) {
                    if ((open >> player & 1) == 0) {
                        continue;
                    }
                    cameFrom[player] = queue[i];
                    if (chairOf[player] == NONE) {
                        moveAlong(player);
                        return true;
                    }
                    if (size < MOST_CHAIRS) {
                        queue[size] = chairOf[player];
                        size++;
                    }
                }
            }
            return false;
        }

        private void moveAlong(int last) {
            int player = last;
            for (int i = 0; i < MOST_PLAYERS && player != NONE; i++) {
                int chair = cameFrom[player];
                int before = holder[chair];
                holder[chair] = player;
                chairOf[player] = chair;
                player = before;
            }
        }

        private void settle(int chair) {
            for (int player = 0; player < MOST_PLAYERS; player++) {
                int bit = 1 << player;
                if ((fitting[chair] & ~settled & bit) != 0 && canTake(chair, player)) {
                    settled |= bit;
                    return;
                }
            }
        }

        /** Gives a chair to a player, if that makes no gap more. */
        private boolean canTake(int chair, int player) {
            int before = holder[chair];
            int left = chairOf[player];
            if (before == player) {
                return true;
            }
            if (before != NONE) {
                chairOf[before] = NONE;
            }
            if (left != NONE) {
                holder[left] = NONE;
            }
            holder[chair] = player;
            chairOf[player] = chair;
            if (before == NONE || left == NONE) {
                return true;
            }
            settled |= 1 << player;
            if (seatOneMore(chair + 1)) {
                return true;
            }
            settled &= ~(1 << player);
            holder[chair] = before;
            chairOf[before] = chair;
            holder[left] = player;
            chairOf[player] = left;
            return false;
        }
    }

    /** Goes through the orders of a service's works, the least ones first. */
    private static final class Orderer {
        private static final int MOST_ORDERS = 120;

        private final int[] tried = new int[MOST_CALLED];
        private final int[] best = new int[MOST_CALLED];
        private int size = 0;
        private int leastWait = 0;

        void findOrder(Service service, Work[] works) {
            begin(service);
            boolean more = true;
            leastWait = BEYOND_ALL;
            for (int i = 0; i < MOST_ORDERS && more; i++) {
                int wait = sumWait(service, works);
                if (wait < leastWait) {
                    leastWait = wait;
                    System.arraycopy(tried, 0, best, 0, size);
                }
                more = nextOrder();
            }
        }

        private void begin(Service service) {
            size = service.workCount;
            for (int i = 0; i < size; i++) {
                int place = i;
                for (int j = i; j > 0 && tried[j - 1] > service.called[i]; j--) {
                    tried[j] = tried[j - 1];
                    place = j - 1;
                }
                tried[place] = service.called[i];
            }
        }

        private int sumWait(Service service, Work[] works) {
            int sum = 0;
            for (int i = 0; i < INSTRUMENTS; i++) {
                if (service.needs[i] > 0) {
                    sum += service.needs[i] * minutesBetween(works, i);
                }
            }
            return sum;
        }

        /** Minutes count once a later work shows that the instrument has waited through them. */
        private int minutesBetween(Work[] works, int instrument) {
            boolean begun = false;
            int waited = 0;
            int pending = 0;
            for (int i = 0; i < size; i++) {
                Work work = works[tried[i]];
                if (work.needOf(instrument) > 0) {
                    begun = true;
                    waited += pending;
                    pending = 0;
                } else if (begun) {
                    pending += work.minutes;
                }
            }
            return waited;
        }

        private boolean nextOrder() {
            int turn = size - 2;
            while (turn >= 0 && tried[turn] > tried[turn + 1]) {
                turn--;
            }
            if (turn < 0) {
                return false;
            }
            int other = size - 1;
            while (other > turn && tried[other] < tried[turn]) {
                other--;
            }
            swap(turn, other);
            for (int low = turn + 1, high = size - 1; low < high; low++, high--) {
                swap(low, high);
            }
            return true;
        }

        private void swap(int one, int other) {
            int kept = tried[one];
            tried[one] = tried[other];
            tried[other] = kept;
        }
    }

    /**
     * Finds THE PROGRAMME. A set's rank is its price times SETS, less a bit for each work, the least work having the
     * greatest bit: so the least rank is the least price and, of like ones, the set that has the least work in which
     * two differ; ranks add up work by work, and the set can be read from a rank.
     */
    private static final class Chooser {
        private static final int SETS = 1 << MOST_WORKS;

        private final int[] posts = new int[INSTRUMENTS];
        private final int[] leastRank = new int[MOST_WORKS * MOST_MINUTES + 1];
        private int longest = 0;

        void begin() {
            Arrays.fill(posts, 0);
            Arrays.fill(leastRank, BEYOND_ALL);
            leastRank[0] = 0;
            longest = 0;
        }

        void addPost(int instrument) {
            posts[instrument]++;
        }

        /** The greatest need of a set is met just if the need of each of its works is. */
        void addWork(int number, Work work) {
            for (int i = 0; i < INSTRUMENTS; i++) {
                if (work.needOf(i) > posts[i]) {
                    return;
                }
            }
            int rank = work.cost * SETS - bitOf(number);
            longest = Math.min(longest + work.minutes, leastRank.length - 1);
            for (int minutes = longest; minutes >= work.minutes; minutes--) {
                int before = leastRank[minutes - work.minutes];
                if (before != BEYOND_ALL) {
                    leastRank[minutes] = Math.min(leastRank[minutes], before + rank);
                }
            }
        }

        int choose(int low, int high) {
            int least = BEYOND_ALL;
            int last = Math.min(high, longest);
            for (int minutes = Math.max(low, 0); minutes <= last; minutes++) {
                least = Math.min(least, leastRank[minutes]);
            }
            return least == BEYOND_ALL ? NONE : setOf(least);
        }

        private static int bitOf(int number) {
            return 1 << (MOST_WORKS - 1 - number);
        }

        private static int setOf(int rank) {
            int bits = -rank & (SETS - 1);
            int set = 0;
            for (int i = 0; i < MOST_WORKS; i++) {
                if ((bits & bitOf(i)) != 0) {
                    set |= 1 << i;
                }
            }
            return set;
        }
    }

    /** Holds one thing, of the sort that is told; bytes, pays and truths have a size. */
    private static final class Tray {
        private final long[] pays = new long[MOST_PLAYERS];
        private Service service = null;
        private byte[] bytes = null;
        private int truths = 0;
        private int size = 0;
        private int sort = NOTHING;

        int elementAt(int place) {
            if (sort == BYTES) {
                return bytes != null && isWithin(place, 0, bytes.length - 1) ? bytes[place] : 0;
            }
            if (sort == PAYS) {
                return isWithin(place, 0, pays.length - 1) ? (int) pays[place] : 0;
            }
            return truths >> place & 1;
        }

        boolean holdsKind(int kind) {
            return sort == A_SERVICE && service != null && service.isOfKind(kind);
        }
    }
}
