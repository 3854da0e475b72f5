import java.util.NoSuchElementException;

/** An evening that lasts as long as its guests: told as a text, asked from now on, and led hour by hour. */
public final class EveningVow {
    /** There is none; refused. */
    public static final int NONE = -1;

    private static final int NOT = -2;
    private static final int NO_WANT = -1000;
    private static final int NO_SHARE = -100;

    private static final int NO_SUCH = 1;
    private static final int BAD_NUMBER = 2;
    private static final int NO_ROOM = 3;
    private static final int FAULTY = 4;
    private static final int NOT_SO = 5;
    private static final int NOTHING = 6;

    private static final int TAPE_BYTES = 800;
    private static final int FED_BYTES = 20;
    private static final int GUESTS = 7;
    private static final int DRAWS = 8;
    private static final int TALES = 4;
    private static final int NEEDS = 5;
    private static final int SIGHTS = 6;
    private static final int CUPS = 4;
    private static final int NAMES = GUESTS + TALES + NEEDS;

    private static final int HOURS = 60;
    private static final int NEVER = HOURS + 1;
    private static final int LAST_HOUR = 99;
    private static final int SIGHT_HOURS = 30;
    private static final int HIRED_HOURS = 6;
    private static final int HOUSE_HOURS = 6;
    private static final int MOST_GRIEF = 40;
    private static final int MOST_TIRED = 200;
    private static final int KEPT_ACTS = 16;
    private static final int KEPT_IMAGES = 3;
    private static final int DRAW_MODULUS = 65537;
    private static final int MOST_EVENINGS = 90;

    private static final int PLAIN = 0;
    private static final int POLITE = 1;
    private static final int HIRED = 2;
    private static final int HOMELESS = 3;

    private final Reader reader = new Reader();
    private House told = new House();
    private House spare = new House();
    private boolean begun = false;
    private int refusal = 0;
    private final Night now = new Night();
    private final Night trial = new Night();
    private final Pace asTold = new Pace(false);
    private final Pace byDraws = new Pace(true);
    private final Past past = new Past();
    private final Night[] images = new Night[KEPT_IMAGES];
    private int imageCount = 0;
    private final TaleRows rows = new TaleRows();
    private final CupShares shares = new CupShares();
    private final Unseen unseen = new Unseen();

    public EveningVow() {
        for (int i = 0; i < KEPT_IMAGES; i++) {
            images[i] = new Night();
        }
    }

    // ---- the evening

    public int feed(int a, int b, int c, int d, int e) {
        if (reader.tapeBytes + FED_BYTES > TAPE_BYTES) {
            return NONE;
        }
        reader.putNumber(a);
        reader.putNumber(b);
        reader.putNumber(c);
        reader.putNumber(d);
        reader.putNumber(e);
        return reader.tapeBytes;
    }

    public int evening(int n) {
        if (n < 0 || n > reader.tapeBytes) {
            return refuse(BAD_NUMBER);
        }
        boolean sound = reader.read(n, spare);
        reader.tapeBytes = 0;
        if (!sound) {
            return refuse(FAULTY);
        }
        beginTold();
        refusal = 0;
        return told.guests;
    }

    public int fault() {
        return reader.faultNumber;
    }

    public int where() {
        return refusal == FAULTY ? reader.faultPlace : NONE;
    }

    // ---- now

    public int guest(int g, int what) {
        if (!guestAsked(g)) {
            return NO_WANT;
        }
        switch (what) {
            case 0:
                return told.kind[g];
            case 1:
                return now.want[g];
            case 2:
                return now.willOf(told, g);
            case 3:
                return now.has(g) ? 1 : 0;
            case 4:
                return now.leftAt[g];
            case 5:
                return told.mate[g];
            default:
                refuse(NO_SUCH);
                return NO_WANT;
        }
    }

    public int drawn(int g, int by) {
        if (!twoAsked(g, by)) {
            return NONE;
        }
        int line = told.drawLine(g, by);
        return line < 0 ? 0 : told.drawnMuch[line];
    }

    public int there() {
        return asked() ? now.there : NONE;
    }

    public int leaving() {
        if (!asked()) {
            return NONE;
        }
        trial.become(now);
        return trial.pass(told, asTold);
    }

    public int thereIn(int hours) {
        if (!asked() || !within(hours, 0, HOURS)) {
            return NONE;
        }
        trial.become(now);
        trial.passAll(told, asTold, hours);
        return trial.there;
    }

    public int wantIn(int g, int hours) {
        if (!guestAsked(g) || !within(hours, 0, HOURS)) {
            return NO_WANT;
        }
        trial.become(now);
        trial.passAll(told, asTold, hours);
        return trial.want[g];
    }

    public int busiest(boolean hour) {
        if (!asked()) {
            return NONE;
        }
        trial.become(now);
        int most = 0;
        int answer = NOT;
        for (int h = 1; h <= HOURS; h++) {
            int left = Integer.bitCount(trial.pass(told, asTold));
            if (left > most) {
                most = left;
                answer = hour ? h : Integer.bitCount(trial.there);
            }
        }
        return answer;
    }

    public int order(int i) {
        if (!asked()) {
            return NONE;
        }
        if (i < 0) {
            return refuse(NO_SUCH);
        }
        trial.become(now);
        int ahead = 0;
        for (int h = 0; h < HOURS; h++) {
            int left = trial.pass(told, asTold);
            for (int g = 0; g < told.guests; g++) {
                if (inBits(left, g)) {
                    if (ahead == i) {
                        return g;
                    }
                    ahead++;
                }
            }
        }
        return NOT;
    }

    public int pull(int g) {
        if (!guestAsked(g)) {
            return NONE;
        }
        int sum = 0;
        for (int d = 0; d < told.draws; d++) {
            if (told.drawer[d] == g && now.has(told.drawnGuest[d])) {
                sum += told.drawnMuch[d];
            }
        }
        return sum;
    }

    public int leavesIn(int g) {
        if (!guestAsked(g)) {
            return NONE;
        }
        trial.become(now);
        int hours = 0;
        while (trial.has(g) && hours < HOURS) {
            trial.pass(told, asTold);
            hours++;
        }
        return trial.has(g) ? NOT : hours;
    }

    public int ends() {
        return asked() ? orNot(endsAsIs()) : NONE;
    }

    public int last() {
        if (!asked()) {
            return NONE;
        }
        return endsAsIs() > HOURS ? NOT : trial.leftLatest;
    }

    // ---- who holds it

    public int chain(int g) {
        return presentAsked(g) ? chainOf(g) : NONE;
    }

    public int biggest() {
        if (!asked()) {
            return NONE;
        }
        int most = 0;
        int answer = NOT;
        for (int g = 0; g < told.guests; g++) {
            int many = now.has(g) ? Integer.bitCount(chainOf(g)) : 0;
            if (many > most) {
                most = many;
                answer = g;
            }
        }
        return answer;
    }

    public int undrawn(int g, int by) {
        if (!twoAsked(g, by)) {
            return NONE;
        }
        int line = told.drawLine(g, by);
        if (line < 0) {
            return refuse(NOT_SO);
        }
        int much = told.drawnMuch[line];
        told.drawnMuch[line] = 0;
        int hours = endsAsIs();
        told.drawnMuch[line] = much;
        return orNot(hours);
    }

    public int apart(int g) {
        if (!guestAsked(g)) {
            return NONE;
        }
        int other = told.mate[g];
        if (other < 0 || other >= told.guests) {
            return refuse(NOT_SO);
        }
        told.mate[g] = NOT;
        told.mate[other] = NOT;
        int hours = endsAsIs();
        told.mate[g] = other;
        told.mate[other] = g;
        return orNot(hours);
    }

    public int rounds() {
        if (!asked()) {
            return NONE;
        }
        trial.become(now);
        trial.pass(told, asTold);
        return trial.roundsRun;
    }

    public int byGrief(int grief) {
        if (!asked() || !within(grief, 0, MOST_GRIEF)) {
            return NONE;
        }
        int kept = told.grief;
        told.grief = grief;
        int hours = endsAsIs();
        told.grief = kept;
        return orNot(hours);
    }

    public int tireFor(int hours) {
        if (!asked() || !within(hours, 0, HOURS)) {
            return NONE;
        }
        for (int much = 0; much <= MOST_TIRED; much++) {
            trial.become(now);
            trial.tire(told, much);
            if (trial.runOut(told, asTold, hours) <= hours) {
                return much;
            }
        }
        return NOT;
    }

    public int endsWithout(int g) {
        return presentAsked(g) ? orNot(endsLess(1 << g, HOURS)) : NONE;
    }

    public int holder() {
        if (!asked()) {
            return NONE;
        }
        int soonest = endsAsIs();
        int answer = NOT;
        for (int g = 0; g < told.guests; g++) {
            int hours = now.has(g) ? endsLess(1 << g, HOURS) : NEVER;
            if (hours < soonest) {
                soonest = hours;
                answer = g;
            }
        }
        return answer;
    }

    public int without(int hours) {
        if (!asked() || !within(hours, 0, HOURS)) {
            return NONE;
        }
        int answer = now.there;
        for (int who = 0; who < now.there; who++) {
            boolean fewer = Integer.bitCount(who) < Integer.bitCount(answer);
            if (fewer && (who & ~now.there) == 0 && endsLess(who, hours) <= hours) {
                answer = who;
            }
        }
        return answer;
    }

    // ---- tales, cups

    public int endsWithTale(int t) {
        if (!taleAsked(t)) {
            return NONE;
        }
        if (now.wasTold(t)) {
            return refuse(NOT_SO);
        }
        int hours = told.taleHours[t];
        trial.become(now);
        trial.narrate(told, t, asTold);
        return orNot(hours + trial.runOut(told, asTold, HOURS - hours));
    }

    public int endsWithCup(int g) {
        return presentAsked(g) ? orNot(endsWoken(g)) : NONE;
    }

    public int bestCup() {
        if (!asked()) {
            return NONE;
        }
        int latest = NONE;
        int answer = NOT;
        for (int g = 0; g < told.guests; g++) {
            int hours = now.has(g) ? endsWoken(g) : NONE;
            if (hours > latest) {
                latest = hours;
                answer = g;
            }
        }
        return answer;
    }

    public int soonest() {
        if (!asked()) {
            return NONE;
        }
        rows.search(told, now, asTold);
        return orNot(rows.bestHours);
    }

    public int taleAt(int i) {
        if (!asked()) {
            return NONE;
        }
        rows.search(told, now, asTold);
        if (rows.bestHours > HOURS) {
            return refuse(NOTHING);
        }
        if (i < 0 || i >= rows.bestLength) {
            return refuse(NO_SUCH);
        }
        return rows.bestRow[i];
    }

    public int latest() {
        if (!asked()) {
            return NONE;
        }
        shares.search(told, now, asTold);
        return orNot(shares.bestHours);
    }

    public int cupsFor(int hours) {
        if (!asked() || !within(hours, 0, HOURS)) {
            return NONE;
        }
        shares.search(told, now, asTold);
        for (int cups = 0; cups <= CUPS; cups++) {
            if (shares.hoursBy[cups] >= hours) {
                return cups;
            }
        }
        return NOT;
    }

    public int cupsTo(int g) {
        if (!guestAsked(g)) {
            return NONE;
        }
        shares.search(told, now, asTold);
        if (shares.bestHours > HOURS) {
            return refuse(NOTHING);
        }
        return shares.bestRow[g];
    }

    // ---- unseen

    public int ways() {
        if (!asked()) {
            return NONE;
        }
        unseen.search(told, asTold);
        return unseen.ways;
    }

    public int wayAt(int i) {
        if (!asked()) {
            return NONE;
        }
        unseen.search(told, asTold);
        if (i < 0 || i >= unseen.ways) {
            return refuse(NO_SUCH);
        }
        return unseen.way[i];
    }

    public int judge() {
        if (!asked()) {
            return NONE;
        }
        unseen.search(told, asTold);
        return unseen.wrongSight;
    }

    // ---- the town, two houses

    public int pays(int hour) {
        if (!asked() || !within(hour, 0, LAST_HOUR)) {
            return NONE;
        }
        return told.town.payAt(hour);
    }

    public int paid() {
        if (!asked()) {
            return NONE;
        }
        int hours = endsAsIs();
        return hours > HOURS ? 0 : told.town.payAt(now.clock + hours);
    }

    public int house(int one, int other, boolean ofOther) {
        if (!asked() || !within(one, 0, HOUSE_HOURS) || !within(other, 0, HOUSE_HOURS)) {
            return NO_SHARE;
        }
        return ofOther ? shareOf(other, one) : shareOf(one, other);
    }

    public int rests() {
        if (!asked()) {
            return NONE;
        }
        int count = 0;
        for (int one = 0; one <= HOUSE_HOURS; one++) {
            for (int other = 0; other <= HOUSE_HOURS; other++) {
                if (isRest(one, other)) {
                    count++;
                }
            }
        }
        return count;
    }

    public int rest() {
        if (!asked()) {
            return NONE;
        }
        for (int one = 0; one <= HOUSE_HOURS; one++) {
            for (int other = 0; other <= HOUSE_HOURS; other++) {
                if (isRest(one, other)) {
                    return 10 * one + other;
                }
            }
        }
        return NOT;
    }

    // ---- by draws

    public int endsBy(int seed) {
        if (!asked() || !within(seed, 0, DRAW_MODULUS - 1)) {
            return NONE;
        }
        byDraws.seed = seed;
        return orNot(endsDrawn());
    }

    public long mean(int seed, int n, boolean lower) {
        if (!asked() || !drawsAsked(seed, n)) {
            return NONE;
        }
        byDraws.seed = seed;
        int sum = 0;
        int ended = 0;
        for (int i = 0; i < n; i++) {
            int hours = endsDrawn();
            if (hours <= HOURS) {
                sum += hours;
                ended++;
            }
        }
        if (ended == 0) {
            return lower ? 1 : 0;
        }
        int part = commonPart(sum, ended);
        if (part < 1) {
            return lower ? ended : sum;
        }
        return (lower ? ended : sum) / part;
    }

    public int often(int seed, int n, int hours) {
        if (!asked() || !drawsAsked(seed, n) || !within(hours, 0, HOURS)) {
            return NONE;
        }
        byDraws.seed = seed;
        int count = 0;
        for (int i = 0; i < n; i++) {
            if (endsDrawn() <= hours) {
                count++;
            }
        }
        return count;
    }

    public int keeps(int g, int seed, int n) {
        if (!guestAsked(g) || !drawsAsked(seed, n)) {
            return NONE;
        }
        byDraws.seed = seed;
        int count = 0;
        for (int i = 0; i < n; i++) {
            if (endsDrawn() <= HOURS && inBits(trial.leftLatest, g)) {
                count++;
            }
        }
        return count;
    }

    // ---- acts

    public int hour() {
        if (!asked()) {
            return NONE;
        }
        if (now.clock >= LAST_HOUR) {
            return refuse(NO_ROOM);
        }
        if (now.there == 0) {
            return refuse(NOTHING);
        }
        keepNow();
        return now.pass(told, asTold);
    }

    public int tell(int t) {
        if (!taleAsked(t)) {
            return NONE;
        }
        if (now.clock + told.taleHours[t] > LAST_HOUR) {
            return refuse(NO_ROOM);
        }
        if (now.wasTold(t)) {
            return refuse(NOT_SO);
        }
        if (now.there == 0) {
            return refuse(NOTHING);
        }
        keepNow();
        return now.narrate(told, t, asTold);
    }

    public int cup(int g) {
        if (!presentAsked(g)) {
            return NO_WANT;
        }
        if (now.cupsLeft < 1) {
            refuse(NOTHING);
            return NO_WANT;
        }
        keepNow();
        now.cupsLeft--;
        now.want[g] += told.wakes;
        return now.want[g];
    }

    public int send(int g) {
        if (!presentAsked(g)) {
            return NONE;
        }
        keepNow();
        return now.dismiss(told, 1 << g);
    }

    public boolean undo() {
        if (!past.takeBack(now)) {
            refuse(NOTHING);
            return false;
        }
        forgetSearches();
        refusal = 0;
        return true;
    }

    public int image() {
        if (!asked()) {
            return NONE;
        }
        if (imageCount >= KEPT_IMAGES) {
            return refuse(NO_ROOM);
        }
        images[imageCount].become(now);
        imageCount++;
        return imageCount - 1;
    }

    public boolean back(int image) {
        if (image < 0 || image >= imageCount) {
            refuse(NO_SUCH);
            return false;
        }
        now.become(images[image]);
        past.forget();
        forgetSearches();
        refusal = 0;
        return true;
    }

    // ---- what is told

    public int led(int i) throws NoSuchElementException {
        int ahead = 0;
        for (int t = 0; t < told.tales; t++) {
            if (now.wasTold(t)) {
                if (ahead == i) {
                    return t;
                }
                ahead++;
            }
        }
        throw new NoSuchElementException();
    }

    public int size(int what) {
        switch (what) {
            case 0:
                return now.cupsLeft;
            case 1:
                return told.wakes;
            case 2:
                return told.grief;
            case 3:
                return told.guests;
            case 4:
                return told.pairs;
            case 5:
                return told.draws;
            case 6:
                return told.tales;
            case 7:
                return told.town.needs;
            case 8:
                return told.town.sights;
            case 9:
                return now.clock;
            case 10:
                return Integer.bitCount(now.there);
            case 11:
                return past.count;
            case 12:
                return imageCount;
            case 13:
                return reader.tapeBytes;
            default:
                return NONE;
        }
    }

    public int trouble() {
        return refusal;
    }

    // ---- what may be asked

    private int refuse(int why) {
        refusal = why;
        return NONE;
    }

    private boolean asked() {
        refusal = begun ? 0 : NO_SUCH;
        return begun;
    }

    private boolean guestAsked(int g) {
        boolean known = g >= 0 && g < told.guests;
        refusal = known ? 0 : NO_SUCH;
        return known;
    }

    private boolean twoAsked(int g, int by) {
        boolean known = guestAsked(g) && guestAsked(by) && g != by;
        refusal = known ? 0 : NO_SUCH;
        return known;
    }

    private boolean presentAsked(int g) {
        if (!guestAsked(g)) {
            return false;
        }
        refusal = now.has(g) ? 0 : NOT_SO;
        return now.has(g);
    }

    private boolean taleAsked(int t) {
        boolean known = t >= 0 && t < told.tales;
        refusal = known ? 0 : NO_SUCH;
        return known;
    }

    private boolean within(int number, int least, int most) {
        boolean inside = number >= least && number <= most;
        refusal = inside ? 0 : BAD_NUMBER;
        return inside;
    }

    private boolean drawsAsked(int seed, int n) {
        return within(seed, 0, DRAW_MODULUS - 1) && within(n, 1, MOST_EVENINGS);
    }

    // ---- what the calls share

    private void beginTold() {
        House read = spare;
        spare = told;
        told = read;
        begun = true;
        now.begin(told);
        past.forget();
        imageCount = 0;
        unseen.known = false;
        forgetSearches();
    }

    private void forgetSearches() {
        rows.known = false;
        shares.known = false;
    }

    private void keepNow() {
        past.keep(now);
        forgetSearches();
    }

    private int endsAsIs() {
        trial.become(now);
        return trial.runOut(told, asTold, HOURS);
    }

    private int endsLess(int who, int hours) {
        trial.become(now);
        trial.dismiss(told, who);
        return trial.runOut(told, asTold, hours);
    }

    private int endsWoken(int g) {
        trial.become(now);
        trial.want[g] += told.wakes;
        return trial.runOut(told, asTold, HOURS);
    }

    private int endsDrawn() {
        trial.become(now);
        return trial.runOut(told, byDraws, HOURS);
    }

    private int chainOf(int g) {
        trial.become(now);
        return trial.dismiss(told, 1 << g);
    }

    private static int orNot(int hours) {
        return hours > HOURS ? NOT : hours;
    }

    private static boolean inBits(int bits, int i) {
        return ((bits >> i) & 1) == 1;
    }

    private static int commonPart(int a, int b) {
        for (int part = b; part > 1; part--) {
            if (a % part == 0 && b % part == 0) {
                return part;
            }
        }
        return 1;
    }

    private static int shareOf(int mine, int others) {
        if (mine > others) {
            return 3 * others - mine;
        }
        return mine < others ? -3 * mine - mine : -mine;
    }

    private static boolean isRest(int one, int other) {
        for (int hours = 0; hours <= HOUSE_HOURS; hours++) {
            if (shareOf(hours, other) > shareOf(one, other) || shareOf(hours, one) > shareOf(other, one)) {
                return false;
            }
        }
        return true;
    }

    /** What a text tells of the house; a reader alone fills it. */
    private static final class House {
        int cups = 0;
        int wakes = 0;
        int grief = 0;
        int guests = 0;
        final int[] kind = new int[GUESTS];
        final int[] firstWant = new int[GUESTS];
        final int[] sinks = new int[GUESTS];
        final int[] mate = new int[GUESTS];
        int pairs = 0;
        int draws = 0;
        final int[] drawnGuest = new int[DRAWS];
        final int[] drawer = new int[DRAWS];
        final int[] drawnMuch = new int[DRAWS];
        int tales = 0;
        final int[] taleHours = new int[TALES];
        final int[] taleTires = new int[TALES];
        final Town town = new Town();

        void clear() {
            guests = 0;
            pairs = 0;
            draws = 0;
            tales = 0;
            town.needs = 0;
            town.sights = 0;
        }

        int drawLine(int g, int by) {
            for (int d = 0; d < draws; d++) {
                if (drawnGuest[d] == g && drawer[d] == by) {
                    return d;
                }
            }
            return NONE;
        }
    }

    /** What a text tells of those outside: the needs of the town, and who was seen or had gone. */
    private static final class Town {
        int needs = 0;
        final int[] needHour = new int[NEEDS];
        final int[] needPays = new int[NEEDS];
        int sights = 0;
        final int[] sightGuest = new int[SIGHTS];
        final int[] sightHour = new int[SIGHTS];
        final int[] sightThere = new int[SIGHTS];

        int payAt(int hour) {
            int sum = 0;
            for (int n = 0; n < needs; n++) {
                if (needHour[n] >= hour) {
                    sum += needPays[n];
                }
            }
            return sum;
        }
    }

    /** By how much wants sink: as told, or by draws from a seed that goes on. */
    private static final class Pace {
        final boolean drawing;
        int seed = 0;

        Pace(boolean drawing) {
            this.drawing = drawing;
        }

        int amount(int sinks) {
            if (!drawing) {
                return sinks;
            }
            seed = (75 * seed + 74) % DRAW_MODULUS;
            int span = 2 * sinks + 1;
            return span < 1 ? 0 : seed % span;
        }
    }

    /** How an evening stands at one moment, and how it goes on. */
    private static final class Night {
        int clock = 0;
        int there = 0;
        int cupsLeft = 0;
        int toldTales = 0;
        int roundsRun = 0;
        int leftLatest = 0;
        final int[] want = new int[GUESTS];
        final int[] leftAt = new int[GUESTS];
        private final int[] will = new int[GUESTS];

        void begin(House h) {
            clock = 0;
            there = (1 << h.guests) - 1;
            cupsLeft = h.cups;
            toldTales = 0;
            for (int g = 0; g < h.guests; g++) {
                want[g] = h.firstWant[g];
                leftAt[g] = NOT;
            }
        }

        void become(Night other) {
            clock = other.clock;
            there = other.there;
            cupsLeft = other.cupsLeft;
            toldTales = other.toldTales;
            System.arraycopy(other.want, 0, want, 0, GUESTS);
            System.arraycopy(other.leftAt, 0, leftAt, 0, GUESTS);
        }

        boolean has(int g) {
            return inBits(there, g);
        }

        boolean wasTold(int t) {
            return inBits(toldTales, t);
        }

        int willOf(House h, int g) {
            weigh(h);
            return will[g];
        }

        private void weigh(House h) {
            for (int g = 0; g < h.guests; g++) {
                will[g] = want[g];
            }
            for (int d = 0; d < h.draws; d++) {
                int g = h.drawnGuest[d];
                if (g >= 0 && g < h.guests && ((there >> h.drawer[d]) & 1) == 1) {
                    will[g] += h.drawnMuch[d];
                }
            }
        }

        private int unwilling(House h) {
            boolean allThere = there == (1 << h.guests) - 1;
            int who = 0;
            for (int g = 0; g < h.guests; g++) {
                boolean waits = allThere && h.kind[g] == POLITE;
                if (((there >> g) & 1) == 1 && will[g] <= 0 && !waits) {
                    who |= 1 << g;
                }
            }
            return who;
        }

        // The griefs come behind all farewells of a round: two of a pair who go together grieve for nobody.
        private void release(House h, int who) {
            there &= ~who;
            for (int g = 0; g < h.guests; g++) {
                if (((who >> g) & 1) == 1) {
                    leftAt[g] = clock;
                    int other = h.mate[g];
                    if (other >= 0 && other < h.guests && ((there >> other) & 1) == 1) {
                        want[other] -= h.grief;
                    }
                }
            }
        }

        // Somebody leaves on every round but the last: there are no more rounds than guests.
        private int settle(House h) {
            roundsRun = 0;
            int left = 0;
            for (int round = 0; round < GUESTS; round++) {
                weigh(h);
                int who = unwilling(h);
                if (who == 0) {
                    return left;
                }
                release(h, who);
                left |= who;
                roundsRun++;
            }
            return left;
        }

        private void sink(House h, Pace pace) {
            for (int g = 0; g < h.guests; g++) {
                boolean rests = h.kind[g] == HOMELESS || (h.kind[g] == HIRED && clock < HIRED_HOURS);
                if (((there >> g) & 1) == 1 && !rests) {
                    want[g] -= pace.amount(h.sinks[g]);
                }
            }
        }

        int pass(House h, Pace pace) {
            sink(h, pace);
            clock++;
            return settle(h);
        }

        int passAll(House h, Pace pace, int hours) {
            int left = 0;
            for (int i = 0; i < hours; i++) {
                left |= pass(h, pace);
            }
            return left;
        }

        int runOut(House h, Pace pace, int hours) {
            leftLatest = 0;
            int gone = 0;
            while (there != 0 && gone < hours) {
                leftLatest = pass(h, pace);
                gone++;
            }
            return there == 0 ? gone : NEVER;
        }

        int dismiss(House h, int who) {
            release(h, who);
            return who | settle(h);
        }

        void tire(House h, int much) {
            for (int g = 0; g < h.guests; g++) {
                if (has(g)) {
                    want[g] -= much;
                }
            }
        }

        int narrate(House h, int t, Pace pace) {
            toldTales |= 1 << t;
            tire(h, h.taleTires[t]);
            return passAll(h, pace, h.taleHours[t]);
        }
    }

    /** The nights ahead of the latest acts; the oldest one makes room. */
    private static final class Past {
        private final Night[] nights = new Night[KEPT_ACTS];
        private int next = 0;
        int count = 0;

        Past() {
            for (int i = 0; i < KEPT_ACTS; i++) {
                nights[i] = new Night();
            }
        }

        void forget() {
            count = 0;
        }

        void keep(Night night) {
            nights[next].become(night);
            next = (next + 1) % KEPT_ACTS;
            if (count < KEPT_ACTS) {
                count++;
            }
        }

        boolean takeBack(Night night) {
            if (count < 1) {
                return false;
            }
            next = (next + KEPT_ACTS - 1) % KEPT_ACTS;
            count--;
            night.become(nights[next]);
            return true;
        }
    }

    /** The row of tales by which it ends soonest. */
    private static final class TaleRows {
        boolean known = false;
        int bestHours = NEVER;
        int bestLength = 0;
        final int[] bestRow = new int[TALES];
        private final int[] row = new int[TALES];
        private final Night[] nights = new Night[TALES + 1];
        private final Night trial = new Night();

        TaleRows() {
            for (int i = 0; i <= TALES; i++) {
                nights[i] = new Night();
            }
        }

        void search(House h, Night now, Pace pace) {
            if (known) {
                return;
            }
            bestHours = NEVER;
            bestLength = 0;
            nights[0].become(now);
            extend(h, pace, 0, 0);
            known = true;
        }

        // Rows come by their first tales, so that of like ones of one length the first is kept.
        private void extend(House h, Pace pace, int length, int hours) {
            if (length > TALES) {
                return;
            }
            weighRow(h, pace, length, hours);
            for (int t = 0; t < h.tales && length < TALES; t++) {
                if (!nights[length].wasTold(t)) {
                    nights[length + 1].become(nights[length]);
                    nights[length + 1].narrate(h, t, pace);
                    row[length] = t;
                    extend(h, pace, length + 1, hours + h.taleHours[t]);
                }
            }
        }

        private void weighRow(House h, Pace pace, int length, int hours) {
            trial.become(nights[length]);
            int ending = Math.min(NEVER, hours + trial.runOut(h, pace, HOURS - hours));
            if (ending < bestHours || (ending == bestHours && length < bestLength)) {
                bestHours = ending;
                bestLength = length;
                System.arraycopy(row, 0, bestRow, 0, TALES);
            }
        }
    }

    /** The cups by which it ends latest, and how late it ends by each number of them. */
    private static final class CupShares {
        boolean known = false;
        int bestHours = 0;
        final int[] bestRow = new int[GUESTS];
        final int[] hoursBy = new int[CUPS + 1];
        private final int[] row = new int[GUESTS];
        private final Night trial = new Night();

        void search(House h, Night now, Pace pace) {
            if (known) {
                return;
            }
            bestHours = NONE;
            for (int cups = 0; cups <= CUPS; cups++) {
                hoursBy[cups] = NONE;
                if (cups <= now.cupsLeft) {
                    share(h, now, pace, cups, 0, cups);
                }
            }
            known = true;
        }

        // Fewer cups come first, then the less to the first guests: of like shares the first is kept,
        // and behind one by which it doesn't end none can be better.
        private void share(House h, Night now, Pace pace, int cups, int g, int left) {
            if (bestHours > HOURS) {
                return;
            }
            if (g >= h.guests || g >= GUESTS) {
                if (left == 0) {
                    weighShare(h, now, pace, cups);
                }
                return;
            }
            int most = now.has(g) ? left : 0;
            for (int c = 0; c <= most; c++) {
                row[g] = c;
                share(h, now, pace, cups, g + 1, left - c);
            }
        }

        private void weighShare(House h, Night now, Pace pace, int cups) {
            trial.become(now);
            for (int g = 0; g < h.guests; g++) {
                trial.want[g] += row[g] * h.wakes;
            }
            int hours = trial.runOut(h, pace, HOURS);
            hoursBy[cups] = Math.max(hoursBy[cups], hours);
            if (hours > bestHours) {
                bestHours = hours;
                System.arraycopy(row, 0, bestRow, 0, GUESTS);
            }
        }
    }

    /** The ways in which a cup was given unseen, or none, so that all that was seen is so. */
    private static final class Unseen {
        boolean known = false;
        int ways = 0;
        int wrongSight = NOT;
        final int[] way = new int[1 + (SIGHT_HOURS + 1) * GUESTS];
        private final int[] thereAt = new int[SIGHT_HOURS + 1];
        private final Night base = new Night();
        private final Night trial = new Night();

        void search(House h, Pace pace) {
            if (known) {
                return;
            }
            ways = 0;
            base.begin(h);
            trial.become(base);
            follow(trial, h, pace);
            wrongSight = firstWrong(h.town);
            addIf(wrongSight == NOT, NOT);
            for (int hour = 0; hour <= SIGHT_HOURS; hour++) {
                thereAt[hour] = base.there;
                tryCups(h, pace);
                base.pass(h, pace);
            }
            known = true;
        }

        // What was ahead of the cup stands in thereAt already, as it was without one.
        private void tryCups(House h, Pace pace) {
            for (int g = 0; g < h.guests; g++) {
                if (base.has(g)) {
                    trial.become(base);
                    trial.want[g] += h.wakes;
                    follow(trial, h, pace);
                    addIf(firstWrong(h.town) == NOT, 10 * base.clock + g);
                }
            }
        }

        private void follow(Night night, House h, Pace pace) {
            for (int hour = night.clock; hour >= 0 && hour <= SIGHT_HOURS; hour++) {
                thereAt[hour] = night.there;
                night.pass(h, pace);
            }
        }

        private int firstWrong(Town town) {
            for (int s = 0; s < town.sights; s++) {
                int hour = town.sightHour[s];
                boolean inside = hour >= 0 && hour <= SIGHT_HOURS;
                if (inside && ((thereAt[hour] >> town.sightGuest[s]) & 1) != town.sightThere[s]) {
                    return s;
                }
            }
            return NOT;
        }

        private void addIf(boolean fits, int code) {
            if (fits && ways < way.length) {
                way[ways] = code;
                ways++;
            }
        }
    }

    /** Keeps the tape, and reads the text of an evening from it into a house, up to the first fault. */
    private static final class Reader {
        private static final int END = 0;
        private static final int WORD = 1;
        private static final int WHOLE = 2;
        private static final int MARK = 3;
        private static final int STRANGE = 4;

        private static final int LINE_EVENING = 0;
        private static final int LINE_GUEST = 1;
        private static final int LINE_PAIR = 2;
        private static final int LINE_DRAWS = 3;
        private static final int LINE_TALE = 4;
        private static final int LINE_NEED = 5;
        private static final int LINE_SEEN = 6;
        private static final int LINE_GONE = 7;

        private static final int FORM = 1;
        private static final int UNTOLD = 2;
        private static final int AGAIN = 3;
        private static final int BOUNDS = 4;
        private static final int MANY = 5;
        private static final int LACKS = 6;

        private static final int WORD_LETTERS = 8;
        private static final int WHOLE_DIGITS = 3;

        // A word's code has its letters as bytes, as many as a long has room for.
        private static final long W_EVENING = 0x6576656e696e67L;
        private static final long W_GUEST = 0x6775657374L;
        private static final long W_PAIR = 0x70616972L;
        private static final long W_DRAWS = 0x6472617773L;
        private static final long W_TALE = 0x74616c65L;
        private static final long W_NEED = 0x6e656564L;
        private static final long W_SEEN = 0x7365656eL;
        private static final long W_GONE = 0x676f6e65L;
        private static final long W_PLAIN = 0x706c61696eL;
        private static final long W_POLITE = 0x706f6c697465L;
        private static final long W_HIRED = 0x6869726564L;
        private static final long W_HOMELESS = 0x686f6d656c657373L;
        private static final long W_CUPS = 0x63757073L;
        private static final long W_WAKES = 0x77616b6573L;
        private static final long W_GRIEF = 0x6772696566L;
        private static final long W_WANT = 0x77616e74L;
        private static final long W_SINKS = 0x73696e6b73L;
        private static final long W_BY = 0x6279L;
        private static final long W_HOURS = 0x686f757273L;
        private static final long W_TIRES = 0x7469726573L;
        private static final long W_PAYS = 0x70617973L;
        private static final long W_HOUR = 0x686f7572L;

        final int[] tape = new int[TAPE_BYTES];
        int tapeBytes = 0;
        int faultNumber = 0;
        int faultPlace = NONE;
        private int length = 0;
        private int sort = END;
        private int from = 0;
        private int to = 0;
        private int number = 0;
        private long code = 0;
        private boolean opened = false;
        private int names = 0;
        private final long[] nameCode = new long[NAMES];
        private final int[] nameLine = new int[NAMES];
        private final int[] nameNumber = new int[NAMES];

        void putNumber(int bytes) {
            for (int shift = 24; shift >= 0 && tapeBytes < TAPE_BYTES; shift -= 8) {
                tape[tapeBytes] = (bytes >>> shift) & 255;
                tapeBytes++;
            }
        }

        boolean read(int bytes, House h) {
            faultNumber = 0;
            faultPlace = NONE;
            length = Math.min(bytes, TAPE_BYTES);
            to = 0;
            opened = false;
            names = 0;
            h.clear();
            step();
            readLine(h);
            for (int line = 0; line < length && !failed() && sort != END; line++) {
                takeMark();
                readLine(h);
            }
            if (!failed() && h.guests == 0) {
                fail(LACKS);
            }
            return !failed();
        }

        private boolean failed() {
            return faultNumber != 0;
        }

        // Once there is a fault nothing more is taken: the first one stands.
        private int fail(int fault) {
            if (!failed()) {
                faultNumber = fault;
                faultPlace = from;
            }
            return NONE;
        }

        // ---- lines

        private void readLine(House h) {
            switch (takeLine(h)) {
                case LINE_EVENING:
                    readEvening(h);
                    break;
                case LINE_GUEST:
                    readGuest(h);
                    break;
                case LINE_PAIR:
                    readPair(h);
                    break;
                case LINE_DRAWS:
                    readDraws(h);
                    break;
                case LINE_TALE:
                    readTale(h);
                    break;
                case LINE_NEED:
                    readNeed(h.town);
                    break;
                case LINE_SEEN:
                    readSight(h.town, 1);
                    break;
                case LINE_GONE:
                    readSight(h.town, 0);
                    break;
                default:
                    break;
            }
        }

        private int takeLine(House h) {
            int line = lineOfWord();
            if (line == NONE) {
                return fail(FORM);
            }
            if (line == LINE_EVENING && opened) {
                return fail(AGAIN);
            }
            if (isFull(h, line)) {
                return fail(MANY);
            }
            if (line != LINE_EVENING && !opened) {
                return fail(LACKS);
            }
            return taken(line);
        }

        private static boolean isFull(House h, int line) {
            switch (line) {
                case LINE_GUEST:
                    return h.guests >= GUESTS;
                case LINE_DRAWS:
                    return h.draws >= DRAWS;
                case LINE_TALE:
                    return h.tales >= TALES;
                case LINE_NEED:
                    return h.town.needs >= NEEDS;
                case LINE_SEEN:
                case LINE_GONE:
                    return h.town.sights >= SIGHTS;
                default:
                    return false;
            }
        }

        private void readEvening(House h) {
            opened = true;
            h.cups = takeAmount(W_CUPS, 0, CUPS);
            h.wakes = takeAmount(W_WAKES, 1, 30);
            h.grief = takeAmount(W_GRIEF, 0, MOST_GRIEF);
        }

        private void readGuest(House h) {
            int g = h.guests;
            takeNewName(LINE_GUEST, g);
            h.kind[g] = takeKind();
            h.firstWant[g] = takeAmount(W_WANT, 1, 99);
            h.sinks[g] = takeAmount(W_SINKS, 0, 20);
            h.mate[g] = NOT;
            h.guests++;
        }

        private void readPair(House h) {
            int one = takeSingle(h, NONE);
            int other = takeSingle(h, one);
            if (one >= 0 && one < h.guests && other >= 0 && other < h.guests) {
                h.mate[one] = other;
                h.mate[other] = one;
                h.pairs++;
            }
        }

        private void readDraws(House h) {
            int d = h.draws;
            int g = taken(knownGuest());
            int by = knownGuest();
            if (by >= 0 && (by == g || h.drawLine(g, by) >= 0)) {
                fail(AGAIN);
            }
            h.drawnGuest[d] = g;
            h.drawer[d] = taken(by);
            h.drawnMuch[d] = takeAmount(W_BY, 1, 20);
            h.draws++;
        }

        private void readTale(House h) {
            int t = h.tales;
            takeNewName(LINE_TALE, t);
            h.taleHours[t] = takeAmount(W_HOURS, 1, 3);
            h.taleTires[t] = takeAmount(W_TIRES, 0, 30);
            h.tales++;
        }

        private void readNeed(Town town) {
            int n = town.needs;
            takeNewName(LINE_NEED, n);
            town.needHour[n] = takeAmount(W_BY, 0, 30);
            town.needPays[n] = takeAmount(W_PAYS, 1, 99);
            town.needs++;
        }

        private void readSight(Town town, int there) {
            int s = town.sights;
            town.sightGuest[s] = taken(knownGuest());
            town.sightHour[s] = takeAmount(W_HOUR, 0, SIGHT_HOURS);
            town.sightThere[s] = there;
            town.sights++;
        }

        // ---- parts of lines

        /** Goes on behind a token that stood for a number, if there is no fault at it. */
        private int taken(int what) {
            if (failed()) {
                return NONE;
            }
            step();
            return what;
        }

        private void takeMark() {
            if (sort != MARK) {
                fail(FORM);
            }
            taken(0);
        }

        private int takeAmount(long word, int least, int most) {
            if (sort != WORD || code != word) {
                fail(FORM);
            }
            taken(0);
            if (sort != WHOLE) {
                fail(FORM);
            }
            if (number < least || number > most) {
                fail(BOUNDS);
            }
            return taken(number);
        }

        private int takeKind() {
            int kind = kindOfWord();
            if (kind == NONE) {
                fail(FORM);
            }
            return taken(kind);
        }

        private void takeNewName(int line, int itsNumber) {
            if (!isName()) {
                fail(FORM);
            }
            if (nameIndex() >= 0) {
                fail(AGAIN);
            }
            if (failed() || names >= NAMES) {
                return;
            }
            nameCode[names] = code;
            nameLine[names] = line;
            nameNumber[names] = itsNumber;
            names++;
            step();
        }

        /** The guest whose name stands here, not taken yet. */
        private int knownGuest() {
            if (!isName()) {
                return fail(FORM);
            }
            int i = nameIndex();
            if (i < 0 || nameLine[i] != LINE_GUEST) {
                return fail(UNTOLD);
            }
            return failed() ? NONE : nameNumber[i];
        }

        /** A guest who is in no pair yet, and unlike another one. */
        private int takeSingle(House h, int unlike) {
            int g = knownGuest();
            if (g >= 0 && g < h.guests && (g == unlike || h.mate[g] >= 0)) {
                fail(AGAIN);
            }
            return taken(g);
        }

        // ---- words

        private boolean isName() {
            return sort == WORD && lineOfWord() == NONE;
        }

        private int nameIndex() {
            for (int i = 0; i < names; i++) {
                if (nameCode[i] == code) {
                    return i;
                }
            }
            return NONE;
        }

        private int lineOfWord() {
            if (sort != WORD) {
                return NONE;
            }
            if (code == W_EVENING) {
                return LINE_EVENING;
            }
            if (code == W_GUEST) {
                return LINE_GUEST;
            }
            if (code == W_PAIR) {
                return LINE_PAIR;
            }
            if (code == W_DRAWS) {
                return LINE_DRAWS;
            }
            if (code == W_TALE) {
                return LINE_TALE;
            }
            if (code == W_NEED) {
                return LINE_NEED;
            }
            if (code == W_SEEN) {
                return LINE_SEEN;
            }
            return code == W_GONE ? LINE_GONE : NONE;
        }

        private int kindOfWord() {
            if (sort != WORD) {
                return NONE;
            }
            if (code == W_PLAIN) {
                return PLAIN;
            }
            if (code == W_POLITE) {
                return POLITE;
            }
            if (code == W_HIRED) {
                return HIRED;
            }
            return code == W_HOMELESS ? HOMELESS : NONE;
        }

        // ---- tokens

        private void step() {
            from = to;
            while (from < length && tape[from] == ' ') {
                from++;
            }
            to = from;
            if (from >= length) {
                sort = END;
            } else if (tape[from] >= 'a' && tape[from] <= 'z') {
                stepWord();
            } else if (tape[from] >= '0' && tape[from] <= '9') {
                stepWhole();
            } else {
                sort = tape[from] == ';' ? MARK : STRANGE;
                to++;
            }
        }

        private void stepWord() {
            code = 0;
            while (to < length && tape[to] >= 'a' && tape[to] <= 'z') {
                code = (code << 8) | tape[to];
                to++;
            }
            sort = to - from > WORD_LETTERS ? STRANGE : WORD;
        }

        private void stepWhole() {
            number = 0;
            while (to < length && tape[to] >= '0' && tape[to] <= '9') {
                number = 10 * number + tape[to] - '0';
                to++;
            }
            sort = to - from > WHOLE_DIGITS ? STRANGE : WHOLE;
        }
    }
}
