import java.util.Arrays;

/** Are we there yet: a ride, the answers told on it, and what may be asked of both; DOC.md tells what each call is. */
public final class NotYetSaid {
    public static final int BAD = -1, FULL = -2, NONE = -3, STATE = -4;

    private static final int NO_SUCH_ROW = -9;
    private static final int MISSING = -11, OUTSIDE = -12, OTHER_SORT = -13, BELOW_0 = -14, PARTED_BY_0 = -15;
    private static final int FAULTS_FROM = -100;
    private static final int LAST_KIND = 5, LAST_SORT = 4, SORTS_FROM = 10;
    private static final int MOST_HOLDS = 60, MOST_BELIEF = 100, MOST_LEFT = 9;
    private static final int MOST_MINUTES = 99, JAM = 2, LAST_MINUTE_HEARD = 999;
    private static final int MOST_TAPE = 200, MOST_AT_ONCE = 8;
    private static final int LONGEST_ROW = 4, MOST_RUNS = 60, MOST_TOLD_BY_SHEET = 20;
    private static final int ROW_ITEMS = 3;

    private final Ride ride = new Ride();
    private final Ride kept = new Ride();
    private boolean isKept;
    private final Search search = new Search(ride);
    private final RuleReader reader = new RuleReader();
    private final byte[] tape = new byte[MOST_TAPE];
    private int taped;
    private final int[][] rows = new int[ROW_ITEMS][LONGEST_ROW];
    private int rowCount;
    private final Host host = new Host();

    public NotYetSaid() {
    }

    // ---- answers, the road

    public int answer(int kind, int holds, int costs, int left) {
        if (!between(kind, 1, LAST_KIND) || !isFit(1, holds) || !isFit(2, costs) || !isFit(3, left)) {
            return BAD;
        }
        return ride.addAnswer(kind, holds, costs, left);
    }

    public int answerOf(int a, int what) {
        Answer one = ride.answerAt(a);
        if (one == null) {
            return BAD;
        }
        switch (what) {
            case 0:
                return one.kind;
            case 1:
                return one.holds;
            case 2:
                return one.costs;
            case 3:
                return one.left;
            case 4:
                return one.told;
            case 5:
                return ride.holdsNow(one);
            case 6:
                return ride.canBeTold(one) ? 1 : 0;
            default:
                return BAD;
        }
    }

    public int change(int a, int what, int v) {
        Answer one = ride.answerAt(a);
        if (one == null || !isFit(what, v)) {
            return BAD;
        }
        int was;
        if (what == 1) {
            was = one.holds;
            one.holds = v;
        } else if (what == 2) {
            was = one.costs;
            one.costs = v;
        } else {
            was = one.left;
            one.left = v;
        }
        return was;
    }

    public int remake(int a, int kind) {
        Answer one = ride.answerAt(a);
        if (one == null || !between(kind, 1, LAST_KIND)) {
            return BAD;
        }
        Answer other = Answer.make(kind, one.number);
        other.takeOver(one);
        ride.putAnswer(other);
        return one.kind;
    }

    public int leg(int minutes, int mood) {
        if (!isLeg(minutes, mood)) {
            return BAD;
        }
        return ride.addLeg(minutes, mood);
    }

    public int legOf(int k, int what) {
        if (!ride.hasLeg(k) || !between(what, 0, 1)) {
            return BAD;
        }
        return what == 0 ? ride.minutesOf(k) : ride.moodOf(k);
    }

    public int drives(int k, int minutes, int mood) {
        if (!ride.hasLeg(k) || !isLeg(minutes, mood)) {
            return BAD;
        }
        int now = ride.legNow();
        if (k < now || (k == now && ride.minute > 0)) {
            return STATE;
        }
        ride.changeLeg(k, minutes, mood);
        return ride.end;
    }

    public int belief(int v) {
        if (!between(v, 0, MOST_BELIEF)) {
            return BAD;
        }
        int was = ride.belief;
        ride.belief = v;
        return was;
    }

    public int state(int what) {
        switch (what) {
            case 0:
                return ride.minute;
            case 1:
                return ride.belief;
            case 2:
                return ride.legNow();
            case 3:
                return ride.moodOf(ride.legNow());
            case 4:
                return ride.end;
            default:
                return BAD;
        }
    }

    public int anew() {
        int was = ride.minute;
        ride.begin();
        return was;
    }

    // ---- the rules

    public int feed(long eight, int n) {
        if (!between(n, 1, MOST_AT_ONCE)) {
            return BAD;
        }
        if (taped + n > MOST_TAPE) {
            return FULL;
        }
        for (int k = 0; k < n && taped < MOST_TAPE; k++) {
            tape[taped] = (byte) (eight >>> (8 * k));
            taped++;
        }
        return taped;
    }

    public int rules() {
        Rules told = reader.read(tape, taped);
        taped = 0;
        if (told == null) {
            return FAULTS_FROM - reader.fault();
        }
        ride.rules = told;
        return told.count;
    }

    // ---- answers told

    public int say(int a) {
        return ride.tell(a);
    }

    public int can() {
        return ride.tellable();
    }

    public int fewest() {
        return search.shortest();
    }

    public int ith(int i) {
        if (!isPlace(i)) {
            return BAD;
        }
        search.walkFirst(search.shortest(), 0);
        int found = search.toldAt(i);
        search.back();
        return found;
    }

    public int ways(int n) {
        return isLength(n) ? Search.arriving(ride, n) : BAD;
    }

    public int far(int n) {
        return isLength(n) ? Search.farthest(ride, n) : BAD;
    }

    public int kind(int n) {
        return isLength(n) ? Search.kindest(ride, n, NONE) : BAD;
    }

    public int kindly(int n, int i) {
        if (!isLength(n) || !isPlace(i)) {
            return BAD;
        }
        int most = Search.kindest(ride, n, NONE);
        if (most == NONE) {
            return NONE;
        }
        search.walkFirst(n, most);
        int found = search.toldAt(i);
        search.back();
        return found;
    }

    public int needs() {
        if (!Search.arrives(ride, LONGEST_ROW, 0)) {
            return 0;
        }
        int needed = 0;
        for (int a = 0; a < ride.answerCount; a++) {
            Answer one = ride.answerAt(a);
            if (one != null) {
                int left = one.left;
                one.left = one.told;
                if (!Search.arrives(ride, LONGEST_ROW, 0)) {
                    needed |= 1 << a;
                }
                one.left = left;
            }
        }
        return needed;
    }

    public int more() {
        int most = Search.kindest(ride, LONGEST_ROW, NONE);
        int by = NONE;
        for (int a = 0; a < ride.answerCount; a++) {
            Answer one = ride.answerAt(a);
            // What can be told as often as a ROW is long is never short of LEFT.
            if (one != null && one.left - one.told < LONGEST_ROW) {
                one.left++;
                int then = Search.kindest(ride, LONGEST_ROW, most);
                one.left--;
                if (then > most) {
                    most = then;
                    by = a;
                }
            }
        }
        return by;
    }

    public int beliefFor(int n) {
        if (!between(n, 1, LONGEST_ROW - 1)) {
            return BAD;
        }
        int was = ride.belief;
        int least = NONE;
        for (int b = 0; b <= MOST_BELIEF && least == NONE; b++) {
            ride.belief = b;
            if (Search.arrives(ride, n, 0)) {
                least = b;
            }
        }
        ride.belief = was;
        return least;
    }

    public int game(int n) {
        return between(n, 1, LONGEST_ROW) ? Search.valueOf(ride, n) : BAD;
    }

    public int play(int n) {
        return between(n, 1, LONGEST_ROW) ? search.bestMove(n) : BAD;
    }

    // ---- a stranger, lots

    public int report(int since, int till, int held) {
        if (!between(since, 0, LAST_MINUTE_HEARD) || !between(till, since, LAST_MINUTE_HEARD) || !between(held, 0, 1)) {
            return BAD;
        }
        return ride.addReport(till - since, held);
    }

    public int forget() {
        int were = ride.reportCount;
        ride.reportCount = 0;
        return were;
    }

    public int span(int what) {
        if (!between(what, 0, 2)) {
            return BAD;
        }
        int many = 0;
        int least = NONE;
        int greatest = NONE;
        for (int holds = 1; holds <= MOST_HOLDS; holds++) {
            if (ride.fits(holds, NONE)) {
                many++;
                least = least == NONE ? holds : least;
                greatest = holds;
            }
        }
        if (what == 0) {
            return many;
        }
        return what == 1 ? least : greatest;
    }

    public int liar() {
        if (ride.someFit(NONE)) {
            return NONE;
        }
        for (int r = 0; r < ride.reportCount; r++) {
            if (ride.someFit(r)) {
                return r;
            }
        }
        return NONE;
    }

    public int seed(int v) {
        int was = ride.lot;
        ride.lot = v;
        return was;
    }

    public int draw() {
        int drawn = ride.drawn();
        if (drawn != NONE) {
            ride.tell(drawn);
        }
        return drawn;
    }

    public int often(int n) {
        if (!between(n, 1, MOST_RUNS)) {
            return BAD;
        }
        int was = ride.lot;
        int over = 0;
        for (int run = 0; run < n; run++) {
            search.walkByLot();
            over += ride.isOver() ? 1 : 0;
            search.back();
        }
        ride.lot = was;
        return over;
    }

    // ---- rows

    public int prove() {
        int length = search.shortest();
        if (length == NONE) {
            return NONE;
        }
        search.walkFirst(length, 0);
        for (int k = 0; k < length && k < LONGEST_ROW; k++) {
            rows[0][k] = search.toldAt(k);
            rows[1][k] = search.minuteBehind(k);
            rows[2][k] = search.beliefBehind(k);
        }
        search.back();
        rowCount = length;
        return length;
    }

    public int row(int k, int what) {
        return isRowItem(k, what) ? rows[what][k] : NO_SUCH_ROW;
    }

    public int alterRow(int k, int what, int v) {
        if (!isRowItem(k, what)) {
            return NO_SUCH_ROW;
        }
        int was = rows[what][k];
        rows[what][k] = v;
        return was;
    }

    public int judge() {
        int wrong = 0;
        for (int k = 0; k < rowCount && k < LONGEST_ROW && wrong == 0; k++) {
            boolean right = search.step(rows[0][k]) && ride.minute == rows[1][k] && ride.belief == rows[2][k]
                    && (k < rowCount - 1 || ride.isOver());
            wrong = right ? 0 : k + 1;
        }
        search.back();
        return wrong;
    }

    // ---- the host

    public int sheet(int sheet, int sort, int n) {
        if (!host.isSheet(sheet) || !between(sort, -1, LAST_SORT) || (sort >= 0 && n > Host.MOST_ITEMS)) {
            return BAD;
        }
        if (sort >= 0 && n < 0) {
            return BELOW_0;
        }
        host.makeRow(sheet, sort, n);
        return 1;
    }

    public int write(int sheet, int i, int v) {
        if (!host.isSheet(sheet)) {
            return BAD;
        }
        if (host.isMissing(sheet)) {
            return MISSING;
        }
        if (!host.hasItem(sheet, i)) {
            return OUTSIDE;
        }
        host.put(sheet, i, v);
        return 1;
    }

    public int item(int sheet, int sort, int i) {
        if (!host.isSheet(sheet) || !between(sort, 0, LAST_SORT)) {
            return BAD;
        }
        int refusal = host.refusal(sheet, sort);
        if (refusal != 0) {
            return refusal;
        }
        return host.hasItem(sheet, i) ? host.itemAt(sheet, i) : OUTSIDE;
    }

    public int tellAll(int sheet, int i, int n) {
        if (!host.isSheet(sheet) || !between(n, 0, MOST_TOLD_BY_SHEET)) {
            return BAD;
        }
        int refusal = host.refusal(sheet, Host.BYTES);
        if (refusal != 0) {
            return refusal;
        }
        int minutes = 0;
        for (int k = 0; k < n; k++) {
            if (!host.hasItem(sheet, i + k)) {
                return OUTSIDE;
            }
            minutes += Math.max(ride.tell(host.itemAt(sheet, i + k)), 0);
        }
        return minutes;
    }

    public int wouldCost(int sheet, int i, int n) {
        if (!host.isSheet(sheet) || !between(n, 0, MOST_TOLD_BY_SHEET)) {
            return BAD;
        }
        int refusal = host.refusal(sheet, Host.BYTES);
        int was = ride.belief;
        for (int k = 0; k < n && refusal == 0; k++) {
            if (!host.hasItem(sheet, i + k)) {
                refusal = OUTSIDE;
            } else if (!search.step(host.itemAt(sheet, i + k))) {
                refusal = STATE;
            }
        }
        int less = was - ride.belief;
        search.back();
        return refusal != 0 ? refusal : less;
    }

    public int shelf(int shelf, int what, int n) {
        if (!host.isShelf(shelf)) {
            return BAD;
        }
        if (what == 0 && ride.answerAt(n) != null) {
            host.shelveAnswer(shelf, n);
        } else if (what == 1 && host.isSheet(n)) {
            host.shelveRow(shelf, n);
        } else if (what == 2) {
            host.clearShelf(shelf);
        } else {
            return BAD;
        }
        return 1;
    }

    public int taken(int shelf, int as) {
        boolean isRow = between(as, SORTS_FROM, SORTS_FROM + LAST_SORT);
        if (!host.isShelf(shelf) || !(isRow || between(as, 0, LAST_KIND))) {
            return BAD;
        }
        if (host.holdsRow(shelf)) {
            return isRow && host.sortOn(shelf) == as - SORTS_FROM ? host.numberOn(shelf) : OTHER_SORT;
        }
        Answer thing = thingOn(shelf);
        if (thing == null) {
            return MISSING;
        }
        return !isRow && isUnder(thing.kind, as) ? thing.number : OTHER_SORT;
    }

    public int act(int shelf, int act, int x) {
        host.beginTrace();
        Answer thing = thingOn(shelf);
        if (thing == null || !between(act, 0, 3)) {
            return 0;
        }
        int done;
        switch (act) {
            case 0:
                done = thing.says(x, host);
                break;
            case 1:
                done = thing.sways(x, host);
                break;
            case 2:
                done = thing.shares(x, host);
                break;
            default:
                done = thing.tells(x, host);
                break;
        }
        return host.partedBy0 ? PARTED_BY_0 : done;
    }

    public int trace(int i) {
        return host.bodyAt(i);
    }

    public int many(int what) {
        switch (what) {
            case 0:
                return ride.answerCount;
            case 1:
                return ride.rules.count;
            case 2:
                return ride.legCount;
            case 3:
                return ride.reportCount;
            case 4:
                return rowCount;
            case 5:
                return taped;
            case 6:
                return host.bodyCount;
            default:
                return BAD;
        }
    }

    // ---- kept

    public int keep() {
        kept.become(ride);
        isKept = true;
        return 1;
    }

    public int again() {
        if (!isKept) {
            return NONE;
        }
        ride.become(kept);
        return ride.answerCount;
    }

    // ---- what the calls share

    private static boolean between(int v, int least, int most) {
        return least <= v && v <= most;
    }

    /** Whether v may be HOLDS (what 1), COSTS (2) or LEFT (3). */
    private static boolean isFit(int what, int v) {
        switch (what) {
            case 1:
                return between(v, 1, MOST_HOLDS);
            case 2:
                return between(v, 0, MOST_BELIEF);
            case 3:
                return between(v, 0, MOST_LEFT);
            default:
                return false;
        }
    }

    private static boolean isLeg(int minutes, int mood) {
        return between(minutes, 1, MOST_MINUTES) && between(mood, 0, JAM);
    }

    private static boolean isLength(int n) {
        return between(n, 0, LONGEST_ROW);
    }

    private static boolean isPlace(int i) {
        return between(i, 0, LONGEST_ROW - 1);
    }

    private boolean isRowItem(int k, int what) {
        return between(k, 0, rowCount - 1) && k < LONGEST_ROW && between(what, 0, ROW_ITEMS - 1);
    }

    /** The ANSWER on a SHELF, if there is one at this time; again() may have taken it away. */
    private Answer thingOn(int shelf) {
        return host.holdsAnswer(shelf) ? ride.answerAt(host.numberOn(shelf)) : null;
    }

    /** Whether a KIND is that other one or stands below it. */
    private static boolean isUnder(int kind, int above) {
        boolean isSongUnderGame = kind == 3 && above == 2;
        boolean isStopUnderBiscuit = kind == 5 && above == 4;
        return kind == above || above == 0 || isSongUnderGame || isStopUnderBiscuit;
    }

    // ---- things of kinds

    /** An ANSWER as a thing of its KIND: how its KIND lets it hold, and its acts. */
    private abstract static class Answer {
        final int kind;
        final int number;
        int holds;
        int costs;
        int left;
        int told;

        Answer(int kind, int number) {
            this.kind = kind;
            this.number = number;
        }

        static Answer make(int kind, int number) {
            switch (kind) {
                case 1:
                    return new Soon(number);
                case 2:
                    return new Game(kind, number);
                case 3:
                    return new Song(number);
                case 4:
                    return new Biscuit(kind, number);
                default:
                    return new Stop(number);
            }
        }

        void takeOver(Answer other) {
            holds = other.holds;
            costs = other.costs;
            left = other.left;
            told = other.told;
        }

        /** How long it would hold where THE RULES leave it h; it may be less than the least of 1 yet. */
        abstract int lasts(int h, int mood);

        int says(int x, Host host) {
            host.began(10);
            return x + holds;
        }

        int sways(int x, Host host) {
            host.began(11);
            return says(x, host) - number;
        }

        int shares(int x, Host host) {
            host.began(12);
            int parts = holds - number;
            if (parts == 0) {
                host.partBy0();
                return 0;
            }
            return x / parts;
        }

        int tells(int x, Host host) {
            host.began(13);
            return sways(x, host) ^ holds;
        }
    }

    private static final class Soon extends Answer {
        Soon(int number) {
            super(1, number);
        }

        int lasts(int h, int mood) {
            int parts = 1 + told;
            return parts > 0 ? h / parts : h;
        }

        int says(int x, Host host) {
            host.began(20);
            return super.says(x, host) * 2;
        }
    }

    private static class Game extends Answer {
        Game(int kind, int number) {
            super(kind, number);
        }

        int lasts(int h, int mood) {
            return mood == JAM ? h + 5 : h;
        }

        int sways(int x, Host host) {
            host.began(30);
            return super.sways(x, host) ^ number;
        }
    }

    private static final class Song extends Game {
        Song(int number) {
            super(3, number);
        }

        int lasts(int h, int mood) {
            return Math.max(super.lasts(h, mood) - 2 * told, 0);
        }

        int says(int x, Host host) {
            host.began(50);
            return super.says(x, host) - 1;
        }

        int tells(int x, Host host) {
            host.began(51);
            int first = super.tells(x, host);
            return first + shares(holds, host);
        }
    }

    private static class Biscuit extends Answer {
        private static final int BENDS = 1;

        Biscuit(int kind, int number) {
            super(kind, number);
        }

        int lasts(int h, int mood) {
            return mood == BENDS ? h / 2 : h;
        }

        int shares(int x, Host host) {
            host.began(40);
            return super.shares(x - 3, host);
        }
    }

    private static final class Stop extends Biscuit {
        Stop(int number) {
            super(5, number);
        }

        int lasts(int h, int mood) {
            return 2 * super.lasts(h, mood);
        }

        int sways(int x, Host host) {
            host.began(60);
            return 0 - super.sways(x, host);
        }

        int shares(int x, Host host) {
            host.began(61);
            int first = super.shares(x, host);
            return first - says(number, host);
        }
    }

    // ---- the ride

    /** All that keep() keeps: ANSWERS, LEGS, where the ride is, THE RULES, REPORTS, the lots' z. */
    private static final class Ride {
        static final int MOST_ANSWERS = 9, MOST_LEGS = 8, MOST_REPORTS = 6;

        final Answer[] answers = new Answer[MOST_ANSWERS];
        int answerCount;
        final int[] legMinutes = new int[MOST_LEGS];
        final int[] legMoods = new int[MOST_LEGS];
        int legCount;
        int end;
        int minute;
        int belief = MOST_BELIEF;
        int lot = 1;
        Rules rules = new Rules();
        final int[] facts = new int[Rules.FACTS];
        final int[] heardBehind = new int[MOST_REPORTS];
        final int[] heardHeld = new int[MOST_REPORTS];
        int reportCount;

        Answer answerAt(int a) {
            return a >= 0 && a < answerCount && a < MOST_ANSWERS ? answers[a] : null;
        }

        int addAnswer(int kind, int holds, int costs, int left) {
            if (answerCount >= MOST_ANSWERS) {
                return FULL;
            }
            Answer one = Answer.make(kind, answerCount);
            one.holds = holds;
            one.costs = costs;
            one.left = left;
            answerCount++;
            putAnswer(one);
            return one.number;
        }

        void putAnswer(Answer one) {
            if (one.number >= 0 && one.number < MOST_ANSWERS) {
                answers[one.number] = one;
            }
        }

        boolean hasLeg(int k) {
            return k >= 0 && k < legCount && k < MOST_LEGS;
        }

        int addLeg(int minutes, int mood) {
            if (legCount >= MOST_LEGS) {
                return FULL;
            }
            int number = legCount;
            legMinutes[number] = 0;
            legCount++;
            changeLeg(number, minutes, mood);
            return number;
        }

        void changeLeg(int k, int minutes, int mood) {
            if (hasLeg(k)) {
                end += minutes - legMinutes[k];
                legMinutes[k] = minutes;
                legMoods[k] = mood;
            }
        }

        int minutesOf(int k) {
            return hasLeg(k) ? legMinutes[k] : 0;
        }

        /** Behind the last LEG the MOOD is plain. */
        int moodOf(int k) {
            return hasLeg(k) ? legMoods[k] : 0;
        }

        int legNow() {
            int till = 0;
            for (int k = 0; k < legCount && k < MOST_LEGS; k++) {
                till += legMinutes[k];
                if (till > minute) {
                    return k;
                }
            }
            return legCount;
        }

        boolean isOver() {
            return minute >= end;
        }

        void begin() {
            minute = 0;
            belief = MOST_BELIEF;
            for (int a = 0; a < answerCount; a++) {
                Answer one = answerAt(a);
                if (one != null) {
                    one.told = 0;
                }
            }
        }

        int holdsNow(Answer one) {
            int leg = legNow();
            int mood = moodOf(leg);
            int h = one.holds;
            if (rules.count > 0) {
                facts[0] = leg;
                facts[1] = mood;
                facts[2] = one.told;
                facts[3] = belief;
                facts[4] = one.number;
                h = rules.changed(one.kind, h, facts);
            }
            return Math.max(one.lasts(h, mood), 1);
        }

        boolean canBeTold(Answer one) {
            return !isOver() && one.told < one.left && one.costs <= belief;
        }

        int tellable() {
            int set = 0;
            for (int a = 0; a < answerCount; a++) {
                Answer one = answerAt(a);
                if (one != null && canBeTold(one)) {
                    set |= 1 << a;
                }
            }
            return set;
        }

        /** The minutes that pass (1 at least), or why it can't be told. */
        int tell(int a) {
            Answer one = answerAt(a);
            if (one == null) {
                return BAD;
            }
            if (!canBeTold(one)) {
                return STATE;
            }
            int passed = Math.min(holdsNow(one), end - minute);
            minute += passed;
            belief -= one.costs;
            one.told++;
            return passed;
        }

        void untell(int a, int passed) {
            Answer one = answerAt(a);
            if (one != null) {
                minute -= passed;
                belief += one.costs;
                one.told--;
            }
        }

        /** The ANSWER that the next lot falls on; it isn't told yet. */
        int drawn() {
            int set = tellable();
            int many = Integer.bitCount(set);
            if (many == 0) {
                return NONE;
            }
            lot = lot * 1103515245 + 12345;
            int ahead = (lot >>> 16) % many;
            for (int a = 0; a < answerCount; a++) {
                if ((set >> a & 1) == 1) {
                    if (ahead == 0) {
                        return a;
                    }
                    ahead--;
                }
            }
            return NONE;
        }

        int addReport(int behind, int held) {
            if (reportCount >= MOST_REPORTS) {
                return FULL;
            }
            heardBehind[reportCount] = behind;
            heardHeld[reportCount] = held;
            reportCount++;
            return reportCount - 1;
        }

        /** Whether each REPORT but that one is so of these HOLDS. */
        boolean fits(int holds, int but) {
            for (int r = 0; r < reportCount && r < MOST_REPORTS; r++) {
                boolean held = heardBehind[r] < holds;
                if (r != but && held != (heardHeld[r] == 1)) {
                    return false;
                }
            }
            return true;
        }

        boolean someFit(int but) {
            for (int holds = 1; holds <= MOST_HOLDS; holds++) {
                if (fits(holds, but)) {
                    return true;
                }
            }
            return false;
        }

        void become(Ride other) {
            answerCount = other.answerCount;
            for (int a = 0; a < MOST_ANSWERS; a++) {
                Answer one = other.answerAt(a);
                if (one != null) {
                    Answer copy = Answer.make(one.kind, one.number);
                    copy.takeOver(one);
                    putAnswer(copy);
                }
            }
            System.arraycopy(other.legMinutes, 0, legMinutes, 0, MOST_LEGS);
            System.arraycopy(other.legMoods, 0, legMoods, 0, MOST_LEGS);
            legCount = other.legCount;
            end = other.end;
            minute = other.minute;
            belief = other.belief;
            lot = other.lot;
            rules = other.rules;
            System.arraycopy(other.heardBehind, 0, heardBehind, 0, MOST_REPORTS);
            System.arraycopy(other.heardHeld, 0, heardHeld, 0, MOST_REPORTS);
            reportCount = other.reportCount;
        }
    }

    // ---- answers told on trial

    /** What is asked of ROWS: ANSWERS are told on the ride itself, and all that were told are taken back. */
    private static final class Search {
        static final int MOST_STEPS = 30;

        private final Ride ride;
        private final int[] told = new int[MOST_STEPS];
        private final int[] passed = new int[MOST_STEPS];
        private final int[] minutes = new int[MOST_STEPS];
        private final int[] beliefs = new int[MOST_STEPS];
        private int length;

        Search(Ride ride) {
            this.ride = ride;
        }

        /** Whether a ROW of n or fewer ARRIVES with that BELIEF or more behind it. */
        private static boolean arrives(Ride ride, int n, int belief) {
            if (ride.belief < belief) {
                return false;
            }
            if (ride.isOver()) {
                return true;
            }
            boolean found = false;
            for (int a = 0; n > 0 && a < ride.answerCount && !found; a++) {
                int passed = ride.tell(a);
                if (passed > 0) {
                    found = arrives(ride, n - 1, belief);
                    ride.untell(a, passed);
                }
            }
            return found;
        }

        /** How many ROWS of n or fewer ARRIVE. */
        private static int arriving(Ride ride, int n) {
            if (ride.isOver()) {
                return 1;
            }
            int many = 0;
            for (int a = 0; n > 0 && a < ride.answerCount; a++) {
                int passed = ride.tell(a);
                if (passed > 0) {
                    many += arriving(ride, n - 1);
                    ride.untell(a, passed);
                }
            }
            return many;
        }

        private static int farthest(Ride ride, int n) {
            int far = ride.minute;
            for (int a = 0; n > 0 && a < ride.answerCount && far < ride.end; a++) {
                int passed = ride.tell(a);
                if (passed > 0) {
                    far = Math.max(far, farthest(ride, n - 1));
                    ride.untell(a, passed);
                }
            }
            return far;
        }

        /** The most BELIEF behind a ROW of n or fewer that ARRIVES, if that is above the floor, else the floor. */
        private static int kindest(Ride ride, int n, int floor) {
            // BELIEF never grows on the way: what is not above the floor here won't be in the end.
            if (ride.belief <= floor) {
                return floor;
            }
            if (ride.isOver()) {
                return ride.belief;
            }
            int most = floor;
            for (int a = 0; n > 0 && a < ride.answerCount; a++) {
                int passed = ride.tell(a);
                if (passed > 0) {
                    most = kindest(ride, n - 1, most);
                    ride.untell(a, passed);
                }
            }
            return most;
        }

        /** VALUE of a GAME of n: 0 who begins wins, 1 the other one, 2 nobody. */
        private static int valueOf(Ride ride, int n) {
            if (n <= 0 || ride.isOver()) {
                return 2;
            }
            int best = 1;
            for (int a = 0; a < ride.answerCount && best != 0; a++) {
                int passed = ride.tell(a);
                if (passed > 0) {
                    best = better(best, valueBehind(valueOf(ride, n - 1)));
                    ride.untell(a, passed);
                }
            }
            return best;
        }

        /** Who begins behind an ANSWER is the other one: what each wins turns round. */
        private static int valueBehind(int value) {
            return value == 2 ? 2 : 1 - value;
        }

        private static int better(int one, int other) {
            if (one == 0 || other == 0) {
                return 0;
            }
            return Math.max(one, other);
        }

        int bestMove(int n) {
            int value = valueOf(ride, n);
            int move = NONE;
            for (int a = 0; a < ride.answerCount && move == NONE; a++) {
                int passed = ride.tell(a);
                if (passed > 0) {
                    if (valueBehind(valueOf(ride, n - 1)) == value) {
                        move = a;
                    }
                    ride.untell(a, passed);
                }
            }
            return move;
        }

        /** The length of the shortest ROW that ARRIVES, or NONE. */
        int shortest() {
            for (int n = 0; n <= LONGEST_ROW; n++) {
                if (arrives(ride, n, 0)) {
                    return n;
                }
            }
            return NONE;
        }

        /** Tells the FIRST ROW of n or fewer that ARRIVES with that BELIEF or more, if there is one. */
        void walkFirst(int n, int belief) {
            for (int rest = n - 1; rest >= 0 && !ride.isOver(); rest--) {
                boolean found = false;
                for (int a = 0; a < ride.answerCount && !found; a++) {
                    if (step(a)) {
                        found = arrives(ride, rest, belief);
                        if (!found) {
                            stepBack();
                        }
                    }
                }
            }
        }

        void walkByLot() {
            boolean going = true;
            for (int k = 0; k < MOST_STEPS && going; k++) {
                int drawn = ride.drawn();
                going = drawn != NONE && step(drawn);
            }
        }

        boolean step(int a) {
            if (length < 0 || length >= MOST_STEPS) {
                return false;
            }
            int minutesPassed = ride.tell(a);
            if (minutesPassed < 0) {
                return false;
            }
            told[length] = a;
            passed[length] = minutesPassed;
            minutes[length] = ride.minute;
            beliefs[length] = ride.belief;
            length++;
            return true;
        }

        void stepBack() {
            if (length > 0 && length <= MOST_STEPS) {
                length--;
                ride.untell(told[length], passed[length]);
            }
        }

        void back() {
            for (int k = 0; k < MOST_STEPS && length > 0; k++) {
                stepBack();
            }
        }

        private boolean isStep(int k) {
            return k >= 0 && k < length && k < MOST_STEPS;
        }

        int toldAt(int k) {
            return isStep(k) ? told[k] : NONE;
        }

        int minuteBehind(int k) {
            return isStep(k) ? minutes[k] : NONE;
        }

        int beliefBehind(int k) {
            return isStep(k) ? beliefs[k] : NONE;
        }
    }

    // ---- the rules

    /** THE RULES as they were read: of each its head, and its condition's steps, operands ahead of their sign. */
    private static final class Rules {
        static final int MOST_RULES = 8, FACTS = 5;
        static final int MORE = 6, LESS = 7, NIL = 8;
        static final int OR = 10, AND = 11, NOT = 12;
        private static final int MOST_STEPS = 100;

        int count;
        private final int[] kinds = new int[MOST_RULES];
        private final int[] deeds = new int[MOST_RULES];
        private final int[] amounts = new int[MOST_RULES];
        private final int[] ends = new int[MOST_RULES];
        private final int[] signs = new int[MOST_STEPS];
        private final int[] lefts = new int[MOST_STEPS];
        private final int[] rights = new int[MOST_STEPS];
        private int steps;

        /** A step of the condition that is read; 200 bytes tell some 80 at most, so there is always room. */
        void addStep(int sign, int left, int right) {
            if (steps < MOST_STEPS) {
                signs[steps] = sign;
                lefts[steps] = left;
                rights[steps] = right;
                steps++;
            }
        }

        void endRule(int kind, int deed, int amount) {
            if (count < MOST_RULES) {
                kinds[count] = kind;
                deeds[count] = deed;
                amounts[count] = amount;
                ends[count] = steps;
                count++;
            }
        }

        /** What THE RULES make of HOLDS of an ANSWER of that KIND. */
        int changed(int kind, int holds, int[] facts) {
            int from = 0;
            for (int r = 0; r < count && r < MOST_RULES; r++) {
                if (isUnder(kind, kinds[r]) && isSo(from, ends[r], facts)) {
                    return done(deeds[r], amounts[r], holds);
                }
                from = ends[r];
            }
            return holds;
        }

        private static int done(int deed, int amount, int holds) {
            switch (deed) {
                case MORE:
                    return holds + amount;
                case LESS:
                    return Math.max(holds - amount, 0);
                default:
                    return 0;
            }
        }

        /** The lowest bit of the stack is what was found last; without steps all is so. */
        private boolean isSo(int from, int till, int[] facts) {
            int stack = 1;
            for (int s = from; s >= 0 && s < till && s < MOST_STEPS; s++) {
                int top = stack & 1;
                switch (signs[s]) {
                    case NOT:
                        stack ^= 1;
                        break;
                    case AND:
                        stack = stack >> 1 & (top | -2);
                        break;
                    case OR:
                        stack = stack >> 1 | top;
                        break;
                    default:
                        stack = stack << 1 | compared(s, facts);
                        break;
                }
            }
            return (stack & 1) == 1;
        }

        /** Whether (1, 0) a comparison is so; an operand below 0 stands for a fact, -1 for the first one. */
        private int compared(int s, int[] facts) {
            int leftFact = -1 - lefts[s];
            int rightFact = -1 - rights[s];
            int left = leftFact >= 0 && leftFact < facts.length ? facts[leftFact] : lefts[s];
            int right = rightFact >= 0 && rightFact < facts.length ? facts[rightFact] : rights[s];
            boolean isSo = signs[s] == '<' ? left < right : signs[s] == '>' ? left > right : left == right;
            return isSo ? 1 : 0;
        }
    }

    /** Reads THE RULES from a text; where it stops, the first thing stands that can't stand there. */
    private static final class RuleReader {
        /** In this order the words are numbered; KINDS and Rules' signs have these numbers. */
        private static final String WORDS =
                "answer soon game song biscuit stop more less nil if or and not leg mood told belief number";
        private static final int STOP = 5, IF = 9, FIRST_FACT = 13, LAST_FACT = 17;
        private static final int NUMBER = 18, END = 19, UNFIT = 20;
        private static final int MOST_DIGITS = 4, MOST_AMOUNT = 99, MOST_OPEN = 3;

        private byte[] text = new byte[0];
        private int length;
        private final int[] sorts = new int[MOST_TAPE];
        private final int[] values = new int[MOST_TAPE];
        private final int[] places = new int[MOST_TAPE];
        private int tokens;
        private int at;
        private Rules made = new Rules();

        /** THE RULES, or null; then fault() tells where. */
        Rules read(byte[] bytes, int many) {
            text = bytes;
            length = Math.min(Math.min(many, bytes.length), MOST_TAPE);
            scan();
            at = 0;
            made = new Rules();
            for (int rule = 0; rule <= Rules.MOST_RULES && token() != END; rule++) {
                if (!readRule()) {
                    return null;
                }
            }
            return made;
        }

        int fault() {
            return at >= 0 && at < tokens && at < MOST_TAPE ? places[at] : length;
        }

        private boolean readRule() {
            int kind = token();
            if (made.count >= Rules.MOST_RULES || kind < 0 || kind > STOP) {
                return false;
            }
            at++;
            if (token() == IF) {
                at++;
                if (!readCondition(0)) {
                    return false;
                }
            }
            return readDeed(kind);
        }

        private boolean readDeed(int kind) {
            int deed = token();
            int amount = 0;
            if (deed != Rules.MORE && deed != Rules.LESS && deed != Rules.NIL) {
                return false;
            }
            at++;
            if (deed != Rules.NIL) {
                amount = value();
                if (token() != NUMBER || amount > MOST_AMOUNT) {
                    return false;
                }
                at++;
            }
            if (token() != ';') {
                return false;
            }
            at++;
            made.endRule(kind, deed, amount);
            return true;
        }

        /** ALL and its ONES are read here, too: one method less keeps the calls within the depth that is allowed. */
        private boolean readCondition(int open) {
            int ones = 0;
            int alls = 0;
            for (int part = 0; part < MOST_TAPE; part++) {
                if (!readOne(open)) {
                    return false;
                }
                if (ones > 0) {
                    made.addStep(Rules.AND, 0, 0);
                }
                ones++;
                if (token() != Rules.AND) {
                    if (alls > 0) {
                        made.addStep(Rules.OR, 0, 0);
                    }
                    alls++;
                    ones = 0;
                    if (token() != Rules.OR) {
                        return true;
                    }
                }
                at++;
            }
            return false;
        }

        private boolean readOne(int open) {
            boolean isNot = false;
            for (int nots = 0; nots < MOST_TAPE && token() == Rules.NOT; nots++) {
                isNot = !isNot;
                at++;
            }
            boolean isRead = token() == '(' ? readGroup(open) : readComparison();
            if (isRead && isNot) {
                made.addStep(Rules.NOT, 0, 0);
            }
            return isRead;
        }

        private boolean readGroup(int open) {
            if (open >= MOST_OPEN) {
                return false;
            }
            at++;
            if (!readCondition(open + 1) || token() != ')') {
                return false;
            }
            at++;
            return true;
        }

        private boolean readComparison() {
            if (!isValue(token())) {
                return false;
            }
            int left = value();
            at++;
            int sign = token();
            if (sign != '<' && sign != '=' && sign != '>') {
                return false;
            }
            at++;
            if (!isValue(token())) {
                return false;
            }
            made.addStep(sign, left, value());
            at++;
            return true;
        }

        private static boolean isValue(int token) {
            return token == NUMBER || (token >= FIRST_FACT && token <= LAST_FACT);
        }

        private int token() {
            return at >= 0 && at < tokens && at < MOST_TAPE ? sorts[at] : END;
        }

        private int value() {
            return at >= 0 && at < tokens && at < MOST_TAPE ? values[at] : 0;
        }

        /** Parts the text; a token is told by a word's number, a sign's own byte, or one of the sorts above. */
        private void scan() {
            tokens = 0;
            int from = 0;
            for (int turn = 0; turn < MOST_TAPE && from < length; turn++) {
                int till = endOfRun(from);
                if (byteAt(from) != ' ' && tokens < MOST_TAPE) {
                    sorts[tokens] = sortOf(from, till);
                    values[tokens] = valueOf(sorts[tokens], from, till);
                    places[tokens] = from;
                    tokens++;
                }
                from = till;
            }
        }

        private int byteAt(int place) {
            return place >= 0 && place < length && place < text.length ? text[place] : 0;
        }

        private static boolean isLetter(int b) {
            return b >= 'a' && b <= 'z';
        }

        private static boolean isDigit(int b) {
            return b >= '0' && b <= '9';
        }

        private int endOfRun(int from) {
            boolean ofLetters = isLetter(byteAt(from));
            boolean ofDigits = isDigit(byteAt(from));
            int till = from + 1;
            while (till < length && (ofLetters && isLetter(byteAt(till)) || ofDigits && isDigit(byteAt(till)))) {
                till++;
            }
            return till;
        }

        private int sortOf(int from, int till) {
            int first = byteAt(from);
            if (isLetter(first)) {
                return wordOf(from, till);
            }
            if (isDigit(first)) {
                return till - from <= MOST_DIGITS ? NUMBER : UNFIT;
            }
            boolean compares = first == '<' || first == '=' || first == '>';
            return compares || first == '(' || first == ')' || first == ';' ? first : UNFIT;
        }

        private int wordOf(int from, int till) {
            int word = 0;
            int begins = 0;
            for (int c = 0; c <= WORDS.length(); c++) {
                if (c == WORDS.length() || WORDS.charAt(c) == ' ') {
                    if (c - begins == till - from && isSame(from, till, begins)) {
                        return word;
                    }
                    word++;
                    begins = c + 1;
                }
            }
            return UNFIT;
        }

        private boolean isSame(int from, int till, int begins) {
            for (int k = 0; k < till - from; k++) {
                int c = begins + k;
                if (c < 0 || c >= WORDS.length() || WORDS.charAt(c) != byteAt(from + k)) {
                    return false;
                }
            }
            return true;
        }

        /** A NUMBER's value; of a fact what stands for it among a condition's operands. */
        private int valueOf(int sort, int from, int till) {
            if (sort != NUMBER) {
                return FIRST_FACT - 1 - sort;
            }
            int number = 0;
            for (int place = from; place < till; place++) {
                number = number * 10 + (byteAt(place) - '0');
            }
            return number;
        }
    }

    // ---- the host

    /** SHEETS, SHELVES, and THE TRACE of the latest act(). */
    private static final class Host {
        static final int BYTES = 0, MOST_ITEMS = 40;
        private static final int SHORTS = 1, BOOLEANS = 4, NO_ROW = -1;
        private static final int SHEETS = 4, SHELVES = 4, MOST_BODIES = 30;
        private static final int NOTHING = -1, AN_ANSWER = -2;

        private final int[] sorts = {NO_ROW, NO_ROW, NO_ROW, NO_ROW};
        private final int[] lengths = new int[SHEETS];
        private final int[][] items = new int[SHEETS][MOST_ITEMS];
        /** A row's sort, or one of the two above; only a row's sort and length are asked, and these never change. */
        private final int[] shelved = {NOTHING, NOTHING, NOTHING, NOTHING};
        private final int[] shelvedNumbers = new int[SHELVES];
        private final int[] bodies = new int[MOST_BODIES];
        int bodyCount;
        boolean partedBy0;

        boolean isSheet(int sheet) {
            return sheet >= 0 && sheet < SHEETS;
        }

        boolean isMissing(int sheet) {
            return !isSheet(sheet) || sorts[sheet] == NO_ROW;
        }

        void makeRow(int sheet, int sort, int n) {
            if (isSheet(sheet)) {
                sorts[sheet] = sort;
                lengths[sheet] = sort == NO_ROW ? 0 : n;
                Arrays.fill(items[sheet], 0);
            }
        }

        /** Why a SHEET can't be taken for a sort; 0 if it can. */
        int refusal(int sheet, int sort) {
            if (isMissing(sheet)) {
                return MISSING;
            }
            return sorts[sheet] == sort ? 0 : OTHER_SORT;
        }

        boolean hasItem(int sheet, int i) {
            return isSheet(sheet) && i >= 0 && i < lengths[sheet] && i < MOST_ITEMS;
        }

        int itemAt(int sheet, int i) {
            return hasItem(sheet, i) ? items[sheet][i] : 0;
        }

        void put(int sheet, int i, int v) {
            if (hasItem(sheet, i)) {
                items[sheet][i] = narrowed(sorts[sheet], v);
            }
        }

        private static int narrowed(int sort, int v) {
            switch (sort) {
                case BYTES:
                    return (byte) v;
                case SHORTS:
                    return (short) v;
                case BOOLEANS:
                    return v != 0 ? 1 : 0;
                default:
                    return v;
            }
        }

        boolean isShelf(int shelf) {
            return shelf >= 0 && shelf < SHELVES;
        }

        void clearShelf(int shelf) {
            if (isShelf(shelf)) {
                shelved[shelf] = NOTHING;
                shelvedNumbers[shelf] = 0;
            }
        }

        void shelveAnswer(int shelf, int number) {
            if (isShelf(shelf)) {
                shelved[shelf] = AN_ANSWER;
                shelvedNumbers[shelf] = number;
            }
        }

        void shelveRow(int shelf, int sheet) {
            if (isMissing(sheet)) {
                clearShelf(shelf);
            } else if (isShelf(shelf)) {
                shelved[shelf] = sorts[sheet];
                shelvedNumbers[shelf] = lengths[sheet];
            }
        }

        boolean holdsAnswer(int shelf) {
            return isShelf(shelf) && shelved[shelf] == AN_ANSWER;
        }

        boolean holdsRow(int shelf) {
            return isShelf(shelf) && shelved[shelf] >= 0;
        }

        int sortOn(int shelf) {
            return isShelf(shelf) ? shelved[shelf] : NOTHING;
        }

        /** An ANSWER's number, or how many items a row has. */
        int numberOn(int shelf) {
            return isShelf(shelf) ? shelvedNumbers[shelf] : 0;
        }

        void beginTrace() {
            bodyCount = 0;
            partedBy0 = false;
        }

        /** Where something was parted by 0 the act ends: what is computed behind that doesn't run. */
        void began(int body) {
            if (!partedBy0 && bodyCount >= 0 && bodyCount < MOST_BODIES) {
                bodies[bodyCount] = body;
                bodyCount++;
            }
        }

        void partBy0() {
            partedBy0 = true;
        }

        int bodyAt(int i) {
            return i >= 0 && i < bodyCount && i < MOST_BODIES ? bodies[i] : NONE;
        }
    }
}
