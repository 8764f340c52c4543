import java.util.Arrays;

/**
 * Lanterns lent against footsteps on a marsh of places and planks: walkers with their light and homes,
 * evenings told as small texts, ways of least costs, rounds, sights and fog by chance.
 * ../shared/DOC.md says what each call answers.
 */
public final class LanternSteps {
    public static final int UNKNOWN = -1, OUTSIDE = -2, STATE = -3, FULL = -4, NO = -5, NONE = -6;
    public static final long GONE = -1000000000000000000L;

    private static final int PLACES = 12;
    private static final int PAIRS = PLACES * PLACES;
    private static final int WALKERS = 6;
    private static final int MOST_STEPS = 99;
    private static final int MOST_LIGHT = 999;
    private static final int MOST_SIGNS = 60;
    private static final int MOST_SIGHTS = 8;
    private static final int MOST_STOPS = 6;
    private static final int MOST_IMAGES = 2;
    /** Above the costs of every way, and small enough that some of it can be added up in an int. */
    private static final int NO_WAY = 1000000;
    /** So that light that is too little for the way home is told by no refusal's number. */
    private static final int LEFT_BASE = 10000;

    private static final int FINE = 0;
    private static final int ABSENT = 1;
    private static final int SAME = 2;
    private static final int CARRIED = 3;
    private static final int APART = 4;
    private static final int NO_PLANK = 5;
    private static final int TOO_DARK = 6;
    private static final int WRONG_LOAD = 7;

    private final Scene now;
    private final Scene[] images;
    private final Pad pad;
    private final Evening evening;
    private final Ways ways;
    private final Tour tour;
    private final Odds odds;
    /** Whether the ways are those of the planks and the fog as they are now. */
    private boolean measured;

    public LanternSteps() {
        now = new Scene();
        images = new Scene[MOST_IMAGES];
        pad = new Pad();
        evening = new Evening();
        ways = new Ways();
        tour = new Tour();
        odds = new Odds();
        measured = false;
    }

    // ---- 1 planks, walkers

    public int plank(int place, int other, int steps, boolean wet) {
        if (!isPlace(place) || !isPlace(other) || place == other) {
            return UNKNOWN;
        }
        if (!isWithin(steps, 0, MOST_STEPS)) {
            return OUTSIDE;
        }
        int before = now.marsh.code(place, other) / 2;
        now.marsh.lay(place, other, steps, wet);
        measured = false;
        return before;
    }

    public int walker(int walker, int place, int home, int light) {
        if (!isWithin(walker, 0, WALKERS - 1) || !isPlace(place) || !isPlace(home)) {
            return UNKNOWN;
        }
        if (!isWithin(light, 0, MOST_LIGHT)) {
            return OUTSIDE;
        }
        now.crowd.enter(walker, place, home, light);
        return now.crowd.size();
    }

    public int leave(int walker) {
        if (!now.crowd.has(walker)) {
            return UNKNOWN;
        }
        now.crowd.remove(walker);
        return now.crowd.size();
    }

    public int fog(boolean is) {
        int before = now.crowd.foggy ? 1 : 0;
        now.crowd.foggy = is;
        measured = false;
        return before;
    }

    public int say(int sign) {
        if (!isWithin(sign, 33, 126)) {
            return OUTSIDE;
        }
        if (pad.count >= MOST_SIGNS) {
            return FULL;
        }
        pad.add(sign);
        return pad.count;
    }

    public int wipe() {
        int before = pad.count;
        pad.clear();
        return before;
    }

    public int fault() {
        return pad.firstFault();
    }

    // ---- 2 evenings, ways

    public int judge(int what) {
        if (!isWithin(what, 0, 2)) {
            return OUTSIDE;
        }
        int refusal = playEvening();
        if (refusal == NO) {
            return NO;
        }
        if (what == 0) {
            return evening.failedAct;
        }
        if (what == 1) {
            return evening.reason;
        }
        return refusal == FINE ? evening.costs : refusal;
    }

    public int behind(int walker, int what) {
        if (!now.crowd.has(walker)) {
            return UNKNOWN;
        }
        if (!isWithin(what, 0, 3)) {
            return OUTSIDE;
        }
        int refusal = playEvening();
        if (refusal != FINE) {
            return refusal;
        }
        Crowd then = evening.crowd;
        if (what == 0) {
            return then.at[walker];
        }
        if (what == 1) {
            return then.light[walker];
        }
        return what == 2 ? then.carries[walker] : then.bearer[walker];
    }

    public int who(int place) {
        if (!isPlace(place)) {
            return UNKNOWN;
        }
        int refusal = playEvening();
        return refusal == FINE ? evening.crowd.standingAt(place) : refusal;
    }

    public int done() {
        int refusal = playEvening();
        if (refusal != FINE) {
            return refusal;
        }
        now.crowd.copyFrom(evening.crowd);
        pad.clear();
        measured = false;
        return evening.acts;
    }

    public int way(int from, int to, int what) {
        if (!isPlace(from) || !isPlace(to)) {
            return UNKNOWN;
        }
        if (!isWithin(what, 0, 1)) {
            return OUTSIDE;
        }
        measure();
        return what == 0 ? orNone(ways.between(from, to)) : ways.firstPlace(from, to);
    }

    public int far(int walker) {
        if (!now.crowd.has(walker)) {
            return UNKNOWN;
        }
        measure();
        int places = 0;
        for (int place = 0; place < PLACES; place++) {
            if (now.crowd.lightAfter(ways, walker, place) != NONE) {
                places |= 1 << place;
            }
        }
        return places;
    }

    public int left(int walker) {
        if (!now.crowd.has(walker)) {
            return UNKNOWN;
        }
        measure();
        int costs = now.crowd.costsHome(ways, walker);
        return costs >= NO_WAY ? NONE : now.crowd.light[walker] - costs + LEFT_BASE;
    }

    public int out(int i) {
        if (i == -1) {
            return now.crowd.size();
        }
        measure();
        return now.crowd.nthHome(ways, i);
    }

    // ---- 3 rounds, planks

    public int round(int place, int set, int what) {
        if (!isPlace(place) || !isWithin(set, 0, (1 << PLACES) - 1)) {
            return UNKNOWN;
        }
        if (!isWithin(what, 0, 1)) {
            return OUTSIDE;
        }
        if (Integer.bitCount(set) > MOST_STOPS) {
            return FULL;
        }
        measure();
        tour.plan(ways, place, set);
        return what == 0 ? orNone(tour.costs) : tour.firstStop;
    }

    public int more(int place) {
        if (!isPlace(place)) {
            return UNKNOWN;
        }
        measure();
        return now.crowd.lackAt(ways, place);
    }

    public int decides(int i) {
        measure();
        return i == -1 ? ways.countDeciding() : ways.nthDeciding(i);
    }

    public int wax(int what) {
        if (!isWithin(what, 0, 1)) {
            return OUTSIDE;
        }
        measure();
        return ways.leastFrame(what == 0);
    }

    public int post(int what, int part) {
        if (!isWithin(what, 0, 1) || !isWithin(part, 0, 1)) {
            return OUTSIDE;
        }
        if (now.crowd.there == 0) {
            return NONE;
        }
        measure();
        boolean together = what == 0;
        int place = now.crowd.bestPost(ways, together);
        if (place == NONE || part == 0) {
            return place;
        }
        return now.crowd.postCosts(ways, place, together);
    }

    public int by(int place) {
        if (!isPlace(place)) {
            return UNKNOWN;
        }
        measure();
        return ways.countPassing(place);
    }

    // ---- 4 whose it was, fog by chance

    public int seen(int place, int light) {
        if (!isPlace(place)) {
            return UNKNOWN;
        }
        if (!isWithin(light, 0, MOST_LIGHT)) {
            return OUTSIDE;
        }
        if (now.sights.count >= MOST_SIGHTS) {
            return FULL;
        }
        now.sights.add(place, light);
        return now.sights.count;
    }

    public int forget() {
        int before = now.sights.count;
        now.sights.clear();
        return before;
    }

    public int whose() {
        measure();
        return now.sights.fitting(now.crowd, ways);
    }

    public int ask(int what) {
        if (!isWithin(what, 0, 1)) {
            return OUTSIDE;
        }
        measure();
        int fitting = now.sights.fitting(now.crowd, ways);
        if (fitting == 0) {
            return NONE;
        }
        int place = Sights.bestQuestion(now.crowd, ways, fitting);
        return what == 0 ? place : Sights.mostAlike(now.crowd, ways, fitting, place);
    }

    public long chance(int walker, int t, int what, int part) {
        if (!now.crowd.has(walker)) {
            return GONE + UNKNOWN;
        }
        if (!isWithin(t, 0, 10) || !isWithin(what, 0, 1) || !isWithin(part, 0, 1)) {
            return GONE + OUTSIDE;
        }
        measure();
        if (now.crowd.foggy || now.crowd.costsHome(ways, walker) >= NO_WAY) {
            return GONE + STATE;
        }
        odds.follow(ways, now.crowd.at[walker], now.crowd.home[walker], t);
        if (what == 0) {
            return odds.partOfEnough(now.crowd.light[walker], part);
        }
        return odds.partOfMean(part);
    }

    public int year(int seed, int m, int what) {
        if (!isWithin(seed, 0, 9999) || !isWithin(m, 1, 99) || !isWithin(what, 0, 2)) {
            return OUTSIDE;
        }
        evening.playYear(now, seed, m);
        if (what == 0) {
            return evening.costs;
        }
        return what == 1 ? evening.crowd.countAtHome() : evening.walks;
    }

    public int image(int k) {
        if (!isWithin(k, 0, MOST_IMAGES - 1)) {
            return OUTSIDE;
        }
        if (images[k] == null) {
            images[k] = new Scene();
        }
        images[k].copyFrom(now);
        return 1;
    }

    public int restore(int k) {
        if (!isWithin(k, 0, MOST_IMAGES - 1)) {
            return OUTSIDE;
        }
        if (images[k] == null) {
            return STATE;
        }
        now.copyFrom(images[k]);
        measured = false;
        return 1;
    }

    public int told(int what) {
        if (isWithin(what, 0, 3)) {
            return tellCount(what);
        }
        if (isWithin(what, 10, 10 * WALKERS + 9)) {
            return tellWalker(what / 10 - 1, what % 10);
        }
        if (isWithin(what, 100, 100 + PAIRS - 1)) {
            return now.marsh.code((what - 100) / PLACES, (what - 100) % PLACES);
        }
        return OUTSIDE;
    }

    private int tellCount(int what) {
        if (what == 0) {
            return pad.count;
        }
        if (what == 1) {
            return now.crowd.there;
        }
        if (what == 2) {
            return now.crowd.foggy ? 1 : 0;
        }
        return now.sights.count;
    }

    private int tellWalker(int walker, int what) {
        if (!now.crowd.has(walker) || !isWithin(what, 0, 3)) {
            return OUTSIDE;
        }
        if (what == 0) {
            return now.crowd.at[walker];
        }
        if (what == 1) {
            return now.crowd.home[walker];
        }
        return what == 2 ? now.crowd.light[walker] : now.crowd.carries[walker];
    }

    /** Plays what is on the pad, by itself: FINE, NO or STATE. */
    private int playEvening() {
        if (pad.firstFault() != NONE) {
            return NO;
        }
        evening.play(now, pad);
        return evening.failedAct == NONE ? FINE : STATE;
    }

    private void measure() {
        if (!measured) {
            ways.measure(now.marsh, now.crowd.foggy);
            measured = true;
        }
    }

    private static boolean isWithin(int number, int least, int most) {
        return number >= least && number <= most;
    }

    private static boolean isPlace(int place) {
        return isWithin(place, 0, PLACES - 1);
    }

    private static boolean isIn(int set, int i) {
        return ((set >> i) & 1) == 1;
    }

    private static int orNone(int costs) {
        return costs >= NO_WAY ? NONE : costs;
    }

    /** The planks. */
    private static final class Marsh {
        /** Twice the steps, and 1 if it is wet; 0: none. Both directions are kept alike. */
        private final int[] codes;

        Marsh() {
            codes = new int[PAIRS];
        }

        int code(int place, int other) {
            return codes[place * PLACES + other];
        }

        void lay(int place, int other, int steps, boolean wet) {
            int code = steps == 0 ? 0 : 2 * steps + (wet ? 1 : 0);
            codes[place * PLACES + other] = code;
            codes[other * PLACES + place] = code;
        }

        /** 0: there is no plank. */
        int costs(int place, int other, boolean foggy) {
            int code = code(place, other);
            int costs = code / 2;
            if (code % 2 == 1) {
                costs *= 2;
            }
            return foggy ? 2 * costs : costs;
        }

        void copyFrom(Marsh other) {
            System.arraycopy(other.codes, 0, codes, 0, PAIRS);
        }
    }

    /** The walkers and the fog: all that an evening changes. */
    private static final class Crowd {
        private int there;
        private boolean foggy;
        private final int[] at;
        private final int[] home;
        private final int[] light;
        private final int[] carries;
        private final int[] bearer;

        Crowd() {
            there = 0;
            foggy = false;
            at = new int[WALKERS];
            home = new int[WALKERS];
            light = new int[WALKERS];
            carries = new int[WALKERS];
            bearer = new int[WALKERS];
            Arrays.fill(carries, NONE);
            Arrays.fill(bearer, NONE);
        }

        boolean has(int walker) {
            return isWithin(walker, 0, WALKERS - 1) && isIn(there, walker);
        }

        int size() {
            return Integer.bitCount(there);
        }

        void enter(int walker, int place, int homePlace, int lent) {
            part(walker);
            there |= 1 << walker;
            at[walker] = place;
            home[walker] = homePlace;
            light[walker] = lent;
        }

        void remove(int walker) {
            part(walker);
            there &= ~(1 << walker);
        }

        /** He carries nobody, and nobody carries him. */
        private void part(int walker) {
            if (carries[walker] != NONE) {
                putDown(walker);
            }
            if (bearer[walker] != NONE) {
                putDown(bearer[walker]);
            }
        }

        /** Only of one who carries someone. */
        private void putDown(int walker) {
            bearer[carries[walker]] = NONE;
            carries[walker] = NONE;
        }

        void copyFrom(Crowd other) {
            there = other.there;
            foggy = other.foggy;
            System.arraycopy(other.at, 0, at, 0, WALKERS);
            System.arraycopy(other.home, 0, home, 0, WALKERS);
            System.arraycopy(other.light, 0, light, 0, WALKERS);
            System.arraycopy(other.carries, 0, carries, 0, WALKERS);
            System.arraycopy(other.bearer, 0, bearer, 0, WALKERS);
        }

        int whyNotWalk(Marsh marsh, int walker, int place) {
            if (!has(walker)) {
                return ABSENT;
            }
            if (bearer[walker] != NONE) {
                return CARRIED;
            }
            int costs = marsh.costs(at[walker], place, foggy);
            if (costs == 0) {
                return NO_PLANK;
            }
            return light[walker] < costs ? TOO_DARK : FINE;
        }

        /** Only where whyNotWalk is FINE: what it costs. */
        int stepTo(Marsh marsh, int walker, int place) {
            int costs = marsh.costs(at[walker], place, foggy);
            light[walker] -= costs;
            at[walker] = place;
            if (carries[walker] != NONE) {
                at[carries[walker]] = place;
            }
            return costs;
        }

        /** The reasons that taking up and giving have in common. */
        private int whyNotMeet(int walker, int other) {
            if (!has(walker) || !has(other)) {
                return ABSENT;
            }
            if (walker == other) {
                return SAME;
            }
            if (bearer[walker] != NONE || bearer[other] != NONE) {
                return CARRIED;
            }
            return at[walker] == at[other] ? FINE : APART;
        }

        /** FINE, and it is so; or why not, and nothing is. */
        int takeUp(int walker, int other) {
            int reason = whyNotMeet(walker, other);
            if (reason != FINE) {
                return reason;
            }
            if (carries[walker] != NONE || carries[other] != NONE) {
                return WRONG_LOAD;
            }
            carries[walker] = other;
            bearer[other] = walker;
            return FINE;
        }

        int setDown(int walker) {
            if (!has(walker)) {
                return ABSENT;
            }
            if (bearer[walker] != NONE) {
                return CARRIED;
            }
            if (carries[walker] == NONE) {
                return WRONG_LOAD;
            }
            putDown(walker);
            return FINE;
        }

        int give(int walker, int other, int amount) {
            int reason = whyNotMeet(walker, other);
            if (reason != FINE) {
                return reason;
            }
            if (light[walker] < amount) {
                return TOO_DARK;
            }
            light[walker] -= amount;
            light[other] = Math.min(MOST_LIGHT, light[other] + amount);
            return FINE;
        }

        int standingAt(int place) {
            int set = 0;
            for (int walker = 0; walker < WALKERS; walker++) {
                if (has(walker) && at[walker] == place) {
                    set |= 1 << walker;
                }
            }
            return set;
        }

        int countAtHome() {
            int count = 0;
            for (int walker = 0; walker < WALKERS; walker++) {
                if (has(walker) && at[walker] == home[walker]) {
                    count++;
                }
            }
            return count;
        }

        int costsHome(Ways ways, int walker) {
            return ways.between(at[walker], home[walker]);
        }

        /** The light that he has left at a place; NONE: he can not come there. */
        int lightAfter(Ways ways, int walker, int place) {
            int costs = ways.between(at[walker], place);
            return costs > light[walker] ? NONE : light[walker] - costs;
        }

        int nthHome(Ways ways, int i) {
            for (int walker = 0; walker < WALKERS; walker++) {
                if (has(walker) && countAheadHome(ways, walker) == i) {
                    return walker;
                }
            }
            return NONE;
        }

        private int countAheadHome(Ways ways, int walker) {
            int costs = costsHome(ways, walker);
            int count = 0;
            for (int other = 0; other < WALKERS; other++) {
                if (has(other) && isAhead(costsHome(ways, other), other, costs, walker)) {
                    count++;
                }
            }
            return count;
        }

        private static boolean isAhead(int costs, int walker, int otherCosts, int other) {
            return costs < otherCosts || (costs == otherCosts && walker < other);
        }

        /** How much more must be lent at a place; NONE: one has no way. */
        int lackAt(Ways ways, int place) {
            int lack = 0;
            for (int walker = 0; walker < WALKERS; walker++) {
                if (has(walker) && at[walker] == place) {
                    int costs = costsHome(ways, walker);
                    if (costs >= NO_WAY) {
                        return NONE;
                    }
                    lack += costs - light[walker];
                }
            }
            return Math.max(0, lack);
        }

        int bestPost(Ways ways, boolean together) {
            int best = NONE;
            int bestCosts = NO_WAY;
            for (int place = 0; place < PLACES; place++) {
                int costs = postCosts(ways, place, together);
                if (costs < bestCosts) {
                    best = place;
                    bestCosts = costs;
                }
            }
            return best;
        }

        /** The ways from a place to all homes, together or the dearest; NO_WAY or more: one has none. */
        int postCosts(Ways ways, int place, boolean together) {
            int sum = 0;
            int dearest = 0;
            for (int walker = 0; walker < WALKERS; walker++) {
                if (has(walker)) {
                    int costs = ways.between(place, home[walker]);
                    sum += costs;
                    dearest = Math.max(dearest, costs);
                }
            }
            return together ? sum : dearest;
        }
    }

    /** Where one and the same walker was seen, and with how much light. */
    private static final class Sights {
        private int count;
        private final int[] places;
        private final int[] lights;

        Sights() {
            count = 0;
            places = new int[MOST_SIGHTS];
            lights = new int[MOST_SIGHTS];
        }

        void add(int place, int light) {
            if (count < MOST_SIGHTS) {
                places[count] = place;
                lights[count] = light;
                count++;
            }
        }

        void clear() {
            count = 0;
        }

        void copyFrom(Sights other) {
            count = other.count;
            System.arraycopy(other.places, 0, places, 0, MOST_SIGHTS);
            System.arraycopy(other.lights, 0, lights, 0, MOST_SIGHTS);
        }

        int fitting(Crowd crowd, Ways ways) {
            int set = 0;
            for (int walker = 0; walker < WALKERS; walker++) {
                if (crowd.has(walker) && fits(crowd, ways, walker)) {
                    set |= 1 << walker;
                }
            }
            return set;
        }

        /** Each sight by itself is told of the way from where he is now. */
        private boolean fits(Crowd crowd, Ways ways, int walker) {
            for (int i = 0; i < count; i++) {
                if (crowd.lightAfter(ways, walker, places[i]) != lights[i]) {
                    return false;
                }
            }
            return true;
        }

        static int bestQuestion(Crowd crowd, Ways ways, int set) {
            int best = NONE;
            int bestLeft = WALKERS + 1;
            for (int place = 0; place < PLACES; place++) {
                int count = mostAlike(crowd, ways, set, place);
                if (count < bestLeft) {
                    best = place;
                    bestLeft = count;
                }
            }
            return best;
        }

        /** How many of a set may be left when the light that one of them had at a place is told. */
        static int mostAlike(Crowd crowd, Ways ways, int set, int place) {
            int most = 0;
            for (int walker = 0; walker < WALKERS; walker++) {
                if (isIn(set, walker)) {
                    int after = crowd.lightAfter(ways, walker, place);
                    most = Math.max(most, countAlike(crowd, ways, set, place, after));
                }
            }
            return most;
        }

        private static int countAlike(Crowd crowd, Ways ways, int set, int place, int after) {
            int count = 0;
            for (int walker = 0; walker < WALKERS; walker++) {
                if (isIn(set, walker) && crowd.lightAfter(ways, walker, place) == after) {
                    count++;
                }
            }
            return count;
        }
    }

    /** All that an image keeps. */
    private static final class Scene {
        private final Marsh marsh;
        private final Crowd crowd;
        private final Sights sights;

        Scene() {
            marsh = new Marsh();
            crowd = new Crowd();
            sights = new Sights();
        }

        void copyFrom(Scene other) {
            marsh.copyFrom(other.marsh);
            crowd.copyFrom(other.crowd);
            sights.copyFrom(other.sights);
        }
    }

    /** The text of an evening, and its grammar. */
    private static final class Pad {
        private static final int BETWEEN_ACTS = 0;
        private static final int BEHIND_WALKER = 1;
        private static final int BEFORE_OTHER = 2;
        private static final int MISPLACED = 3;

        private int count;
        private final int[] signs;

        Pad() {
            count = 0;
            signs = new int[MOST_SIGNS];
        }

        void add(int sign) {
            if (count < MOST_SIGNS) {
                signs[count] = sign;
                count++;
            }
        }

        void clear() {
            count = 0;
        }

        /** 0: there is none. */
        int signAt(int i) {
            return isWithin(i, 0, count - 1) ? signs[i] : 0;
        }

        int firstFault() {
            int state = BETWEEN_ACTS;
            for (int i = 0; i < count; i++) {
                state = stateBehind(state, signs[i]);
                if (state == MISPLACED) {
                    return i;
                }
            }
            return state == BETWEEN_ACTS ? NONE : count;
        }

        private static int stateBehind(int state, int sign) {
            if (state == BEHIND_WALKER) {
                if (sign == '-' || isWithin(sign, 'a', 'l')) {
                    return BETWEEN_ACTS;
                }
                return takesOther(sign) ? BEFORE_OTHER : MISPLACED;
            }
            boolean isWalker = isWithin(sign, 'A', 'F');
            if (state == BEFORE_OTHER) {
                return isWalker ? BETWEEN_ACTS : MISPLACED;
            }
            if (sign == '~') {
                return BETWEEN_ACTS;
            }
            return isWalker ? BEHIND_WALKER : MISPLACED;
        }

        private static boolean takesOther(int sign) {
            return sign == '+' || isWithin(sign, '1', '9');
        }

        /** The length of the act that begins at i, in a text without a fault. */
        int actLength(int i) {
            if (signAt(i) == '~') {
                return 1;
            }
            return takesOther(signAt(i + 1)) ? 3 : 2;
        }
    }

    /** Acts tried on walkers of its own, so that nothing is done in fact. */
    private static final class Evening {
        private final Crowd crowd;
        private int acts;
        private int failedAct;
        private int reason;
        private int costs;
        private int walks;

        Evening() {
            crowd = new Crowd();
            acts = 0;
            failedAct = NONE;
            reason = NONE;
            costs = 0;
            walks = 0;
        }

        private void begin(Scene scene) {
            crowd.copyFrom(scene.crowd);
            acts = 0;
            failedAct = NONE;
            reason = NONE;
            costs = 0;
            walks = 0;
        }

        /** Up to the first act that can not be; the text has no fault. */
        void play(Scene scene, Pad pad) {
            begin(scene);
            int start = 0;
            for (int i = 0; i < MOST_SIGNS && start < pad.count; i++) {
                int why = perform(scene.marsh, pad, start);
                if (why != FINE) {
                    failedAct = i;
                    reason = why;
                    return;
                }
                acts++;
                start += pad.actLength(start);
            }
        }

        private int perform(Marsh marsh, Pad pad, int start) {
            int first = pad.signAt(start);
            if (first == '~') {
                crowd.foggy = !crowd.foggy;
                return FINE;
            }
            int walker = first - 'A';
            int second = pad.signAt(start + 1);
            if (second == '-') {
                return crowd.setDown(walker);
            }
            if (isWithin(second, 'a', 'l')) {
                return walk(marsh, walker, second - 'a');
            }
            int other = pad.signAt(start + 2) - 'A';
            if (second == '+') {
                return crowd.takeUp(walker, other);
            }
            return crowd.give(walker, other, 10 * (second - '0'));
        }

        private int walk(Marsh marsh, int walker, int place) {
            int why = crowd.whyNotWalk(marsh, walker, place);
            if (why == FINE) {
                costs += crowd.stepTo(marsh, walker, place);
                walks++;
            }
            return why;
        }

        void playYear(Scene scene, int seed, int draws) {
            begin(scene);
            int x = seed;
            for (int i = 0; i < draws; i++) {
                x = (75 * x + 74) % 65537;
                if (x % 17 == 0) {
                    crowd.foggy = !crowd.foggy;
                } else {
                    walk(scene.marsh, x % WALKERS, x / 6 % PLACES);
                }
            }
        }
    }

    /** What planks cost now, and the least that ways do. */
    private static final class Ways {
        private final int[] planks;
        private final int[] least;
        /** Of each place the places to which there is a plank. */
        private final int[] neighbours;

        Ways() {
            planks = new int[PAIRS];
            least = new int[PAIRS];
            neighbours = new int[PLACES];
        }

        void measure(Marsh marsh, boolean foggy) {
            for (int place = 0; place < PLACES; place++) {
                neighbours[place] = 0;
                for (int other = 0; other < PLACES; other++) {
                    int costs = marsh.costs(place, other, foggy);
                    if (costs != 0) {
                        neighbours[place] |= 1 << other;
                    }
                    planks[place * PLACES + other] = costs == 0 ? NO_WAY : costs;
                    least[place * PLACES + other] = place == other ? 0 : planks[place * PLACES + other];
                }
            }
            for (int middle = 0; middle < PLACES; middle++) {
                shortenBy(middle);
            }
        }

        private void shortenBy(int middle) {
            for (int from = 0; from < PLACES; from++) {
                int first = between(from, middle);
                if (first < NO_WAY) {
                    for (int to = 0; to < PLACES; to++) {
                        int costs = first + between(middle, to);
                        if (costs < between(from, to)) {
                            least[from * PLACES + to] = costs;
                        }
                    }
                }
            }
        }

        /** NO_WAY: there is none. */
        int between(int from, int to) {
            return least[from * PLACES + to];
        }

        /** NO_WAY: there is none. */
        int plankCosts(int place, int other) {
            return planks[place * PLACES + other];
        }

        int firstPlace(int from, int to) {
            if (from == to || between(from, to) >= NO_WAY) {
                return NONE;
            }
            for (int next = 0; next < PLACES; next++) {
                if (plankCosts(from, next) + between(next, to) == between(from, to)) {
                    return next;
                }
            }
            return NONE;
        }

        int countPassing(int place) {
            int count = 0;
            for (int from = 0; from < PLACES; from++) {
                for (int to = 0; to < PLACES; to++) {
                    if (from != to && from != place && to != place && passes(from, to, place)) {
                        count++;
                    }
                }
            }
            return count;
        }

        private boolean passes(int from, int to, int place) {
            return between(from, to) < NO_WAY
                && between(from, place) + between(place, to) == between(from, to);
        }

        int countDeciding() {
            int count = 0;
            for (int code = 0; code < PAIRS; code++) {
                if (isDeciding(code / PLACES, code % PLACES)) {
                    count++;
                }
            }
            return count;
        }

        int nthDeciding(int i) {
            int ahead = 0;
            for (int code = 0; code < PAIRS; code++) {
                if (isDeciding(code / PLACES, code % PLACES)) {
                    if (ahead == i) {
                        return code;
                    }
                    ahead++;
                }
            }
            return NONE;
        }

        /** A plank, told by its lesser place first, without which its two ends have no way. */
        private boolean isDeciding(int place, int other) {
            return place < other && isIn(neighbours[place], other) && !isIn(reachWithout(place, other), other);
        }

        /** The places that can be got to from a place without the plank from it to another. */
        private int reachWithout(int place, int other) {
            int reached = (1 << place) | (neighbours[place] & ~(1 << other));
            for (int round = 0; round < PLACES && !isIn(reached, other); round++) {
                int before = reached;
                for (int next = 0; next < PLACES; next++) {
                    if (next != place && isIn(reached, next)) {
                        reached |= neighbours[next];
                    }
                }
                if (reached == before) {
                    break;
                }
            }
            return reached;
        }

        /** The least costs of planks that join what is joined now, or how many these are. */
        int leastFrame(boolean tellsCosts) {
            int costs = 0;
            int count = 0;
            int joined = 0;
            for (int i = 0; i < PLACES; i++) {
                int plank = cheapestOutOf(joined);
                if (plank == NONE) {
                    joined |= Integer.lowestOneBit(~joined);
                } else {
                    costs += planks[plank];
                    count++;
                    joined |= 1 << (plank % PLACES);
                }
            }
            return tellsCosts ? costs : count;
        }

        /** From a place of a set to one that is not in it; NONE. */
        private int cheapestOutOf(int set) {
            int best = NONE;
            int bestCosts = NO_WAY;
            for (int code = 0; code < PAIRS; code++) {
                if (planks[code] < bestCosts && isIn(set, code / PLACES) && !isIn(set, code % PLACES)) {
                    best = code;
                    bestCosts = planks[code];
                }
            }
            return best;
        }
    }

    /** The doctor's round. */
    private static final class Tour {
        private int costs;
        private int firstStop;
        private final int[] stops;
        /** By a set of stops that are to come, and the stop where one is: what is to walk still. */
        private final int[] rest;

        Tour() {
            costs = 0;
            firstStop = NONE;
            stops = new int[MOST_STOPS];
            rest = new int[(1 << MOST_STOPS) * MOST_STOPS];
        }

        /** Costs are NO_WAY or more where there is no such round. */
        void plan(Ways ways, int place, int set) {
            int count = listStops(set);
            for (int coming = 0; coming < (1 << count); coming++) {
                for (int stop = 0; stop < count; stop++) {
                    if (!isIn(coming, stop)) {
                        rest[coming * MOST_STOPS + stop] = restFrom(ways, stops[stop], coming, count, place);
                    }
                }
            }
            int all = (1 << count) - 1;
            costs = restFrom(ways, place, all, count, place);
            firstStop = NONE;
            for (int stop = count - 1; stop >= 0; stop--) {
                if (costs < NO_WAY && restBy(ways, place, all, stop) == costs) {
                    firstStop = stops[stop];
                }
            }
        }

        private int listStops(int set) {
            int count = 0;
            for (int place = 0; place < PLACES; place++) {
                if (isIn(set, place) && count < MOST_STOPS) {
                    stops[count] = place;
                    count++;
                }
            }
            return count;
        }

        /** Lesser sets of what is to come are known. */
        private int restFrom(Ways ways, int here, int coming, int count, int end) {
            if (coming == 0) {
                return ways.between(here, end);
            }
            int best = NO_WAY;
            for (int stop = 0; stop < count; stop++) {
                if (isIn(coming, stop)) {
                    best = Math.min(best, restBy(ways, here, coming, stop));
                }
            }
            return best;
        }

        private int restBy(Ways ways, int here, int coming, int stop) {
            return ways.between(here, stops[stop]) + rest[(coming & ~(1 << stop)) * MOST_STOPS + stop];
        }
    }

    /** Fog by chance on the planks of one way. */
    private static final class Odds {
        private final int[] planks;
        private int count;
        private int tenths;

        Odds() {
            planks = new int[PLACES];
            count = 0;
            tenths = 0;
        }

        /** There is a way. */
        void follow(Ways ways, int from, int to, int t) {
            tenths = t;
            count = 0;
            int here = from;
            for (int i = 0; i < PLACES && here != to; i++) {
                int next = ways.firstPlace(here, to);
                if (next == NONE) {
                    return;
                }
                planks[count] = ways.plankCosts(here, next);
                count++;
                here = next;
            }
        }

        /** That the light is enough. */
        long partOfEnough(int light, int part) {
            long all = 1;
            for (int i = 0; i < count; i++) {
                all *= 10;
            }
            return partOf(casesOfEnough(planks, count, tenths, light, 0), all, part);
        }

        /** Of ten to the power of the planks from i on; it goes as deep as a way has planks, 11 at most. */
        private static long casesOfEnough(int[] planks, int count, int tenths, int light, int i) {
            if (light < 0) {
                return 0;
            }
            if (i >= count || i >= planks.length) {
                return 1;
            }
            long clear = casesOfEnough(planks, count, tenths, light - planks[i], i + 1);
            long foggy = casesOfEnough(planks, count, tenths, light - 2 * planks[i], i + 1);
            return (10 - tenths) * clear + tenths * foggy;
        }

        long partOfMean(int part) {
            long sum = 0;
            for (int i = 0; i < count; i++) {
                sum += planks[i];
            }
            return partOf(sum * (10 + tenths), 10, part);
        }

        /** Of a fraction in lowest terms; the lower number is 1 or more. */
        private static long partOf(long upper, long lower, int part) {
            long shared = sharedDivisor(lower, upper);
            if (shared <= 0) {
                return 0;
            }
            return part == 0 ? upper / shared : lower / shared;
        }

        /** Halves at least every second time, so that a hundred times are plenty for a long. */
        private static long sharedDivisor(long a, long b) {
            long greater = a;
            long lesser = b;
            for (int i = 0; i < 200 && lesser != 0; i++) {
                long over = greater % lesser;
                greater = lesser;
                lesser = over;
            }
            return greater;
        }
    }
}
