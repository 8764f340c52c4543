/** The last numbers that are taken, on both sides, of each number of each call, with what they then do. */
public final class BoundsTest {
    private static final int OUTSIDE = LanternSteps.OUTSIDE;
    private static final int FULL = LanternSteps.FULL;
    private static final int NONE = LanternSteps.NONE;

    private static final Due due = new Due("BoundsTest");

    public static void main(String[] args) {
        placesOfPlanks();
        stepsOfPlanks();
        walkersAndPlaces();
        lights();
        sixAndNotMore();
        signs();
        whatIsJudged();
        placesOfWays();
        dearestWay();
        leftOver();
        outByNumber();
        decidesByNumber();
        setsOfRounds();
        moreThan999();
        mostThatPostCosts();
        mostThatGoesBy();
        sights();
        tenths();
        seedsAndDraws();
        images();
        toldNumbers();
        toldOfNobody();
        due.end();
    }

    /** a to l in a row, each plank wet and of 99 steps: the dearest there is. */
    private static LanternSteps longest() {
        LanternSteps x = new LanternSteps();
        for (int place = 0; place < 11; place++) {
            x.plank(place, place + 1, 99, true);
        }
        return x;
    }

    private static void placesOfPlanks() {
        for (int place = 0; place < 12; place++) {
            LanternSteps x = new LanternSteps();
            for (int other = 0; other < 12; other++) {
                if (place != other) {
                    String text = "2: plank " + place + ", " + other;
                    due.is(text, x.plank(place, other, 5, false), 0);
                    due.is(text + ", told", x.told(100 + 12 * place + other), 10);
                    due.is(text + ", told back", x.told(100 + 12 * other + place), 10);
                    due.is(text + ", again", x.plank(other, place, 6, true), 5);
                }
            }
        }
    }

    private static void stepsOfPlanks() {
        LanternSteps x = new LanternSteps();
        for (int steps = 1; steps <= 99; steps++) {
            due.is("2: steps " + steps, x.plank(0, 11, steps, false), steps - 1);
            due.is("2: told of " + steps, x.told(111), 2 * steps);
            due.is("2: wet, " + steps, x.plank(11, 0, steps, true), steps);
            due.is("2: told of wet " + steps, x.told(111), 2 * steps + 1);
        }
        due.is("2: 0 steps, dry", x.plank(0, 11, 0, false), 99);
        due.is("2: none is", x.told(111), 0);
        due.is("2: 1 step", x.plank(0, 11, 1, true), 0);
        due.is("2: 0 steps, wet", x.plank(0, 11, 0, true), 1);
        due.is("2: none is, wet or not", x.told(111), 0);
        due.is("2: none where none was", x.plank(0, 11, 0, true), 0);
        due.is("2: none is still", x.told(111), 0);
    }

    private static void walkersAndPlaces() {
        for (int walker = 0; walker < 6; walker++) {
            LanternSteps x = new LanternSteps();
            for (int place = 0; place < 12; place++) {
                String text = "3: walker " + walker + " at " + place;
                due.is(text, x.walker(walker, place, 11 - place, 7), 1);
                due.is(text + ", where", x.told(10 * (1 + walker)), place);
                due.is(text + ", home", x.told(10 * (1 + walker) + 1), 11 - place);
                due.is(text + ", who", x.told(1), 1 << walker);
            }
            due.is("4: leave " + walker, x.leave(walker), 0);
            due.is("4: nobody is", x.told(1), 0);
            due.is("4: leave once more " + walker, x.leave(walker), LanternSteps.UNKNOWN);
        }
    }

    private static void lights() {
        LanternSteps x = new LanternSteps();
        for (int light : new int[] {0, 1, 998, 999}) {
            due.is("3: light " + light, x.walker(0, 0, 0, light), 1);
            due.is("3: told light " + light, x.told(12), light);
        }
    }

    private static void sixAndNotMore() {
        LanternSteps x = new LanternSteps();
        for (int walker = 0; walker < 6; walker++) {
            due.is("3: how many with " + walker, x.walker(walker, 0, 0, 0), walker + 1);
        }
        due.is("3: all", x.told(1), 63);
        due.is("3: anew, still six", x.walker(0, 0, 0, 0), 6);
        due.is("3: no seventh", x.walker(6, 0, 0, 0), LanternSteps.UNKNOWN);
        for (int walker = 5; walker >= 0; walker--) {
            due.is("4: how many without " + walker, x.leave(walker), walker);
        }
    }

    private static void signs() {
        LanternSteps x = new LanternSteps();
        for (int sign = 33; sign <= 126; sign++) {
            due.is("6: sign " + sign, x.say(sign), 1);
            due.is("7: wipe", x.wipe(), 1);
        }
    }

    private static void whatIsJudged() {
        LanternSteps x = new LanternSteps();
        x.walker(5, 11, 0, 999);
        int[] judged = {NONE, NONE, 0};
        for (int what = 0; what < 3; what++) {
            due.is("9: judge " + what, x.judge(what), judged[what]);
        }
        int[] behind = {11, 999, NONE, NONE};
        for (int what = 0; what < 4; what++) {
            due.is("10: behind " + what, x.behind(5, what), behind[what]);
        }
        for (int place = 0; place < 12; place++) {
            due.is("11: who at " + place, x.who(place), place == 11 ? 32 : 0);
        }
    }

    private static void placesOfWays() {
        LanternSteps x = longest();
        for (int from = 0; from < 12; from++) {
            for (int to = 0; to < 12; to++) {
                int steps = Math.abs(from - to);
                due.is("13: way " + from + ", " + to, x.way(from, to, 0), 198 * steps);
                int first = from == to ? NONE : from < to ? from + 1 : from - 1;
                due.is("13: first of " + from + ", " + to, x.way(from, to, 1), first);
            }
        }
        for (int place = 0; place < 12; place++) {
            due.is("18: more at " + place, x.more(place), 0);
            due.is("22: by " + place, x.by(place), 2 * place * (11 - place));
        }
    }

    private static void dearestWay() {
        LanternSteps x = longest();
        due.is("13: the dearest without fog", x.way(0, 11, 0), 2178);
        x.fog(true);
        due.is("13: the dearest", x.way(0, 11, 0), 4356);
        due.is("13: back", x.way(11, 0, 0), 4356);
        due.is("20: the dearest wax", x.wax(0), 4356);
        due.is("20: eleven planks", x.wax(1), 11);
        due.is("17: the dearest round", x.round(0, 1 << 11, 0), 8712);
        LanternSteps y = new LanternSteps();
        y.plank(0, 11, 1, false);
        due.is("13: the cheapest", y.way(11, 0, 0), 1);
    }

    private static void leftOver() {
        LanternSteps x = longest();
        x.walker(0, 0, 0, 999);
        due.is("15: at home with all light", x.left(0), 10999);
        x.walker(0, 0, 0, 0);
        due.is("15: at home with none", x.left(0), 10000);
        x.walker(0, 0, 1, 198);
        due.is("15: just enough", x.left(0), 10000);
        due.is("14: far, just enough", x.far(0), 3);
        x.walker(0, 0, 1, 197);
        due.is("15: one too little", x.left(0), 9999);
        due.is("14: far, one too little", x.far(0), 1);
        x.walker(0, 0, 1, 199);
        due.is("15: one too many", x.left(0), 10001);
        x.walker(0, 0, 11, 0);
        x.fog(true);
        due.is("15: least of all", x.left(0), 5644);
        x.walker(0, 0, 11, 999);
        due.is("14: far in fog with all light", x.far(0), 7);
        x.fog(false);
        due.is("14: far with all light", x.far(0), 63);
        x.plank(10, 11, 0, false);
        due.is("15: no way", x.left(0), NONE);
        x.walker(0, 11, 11, 5);
        due.is("15: no plank, but at home", x.left(0), 10005);
        due.is("14: no plank, but where he is", x.far(0), 1 << 11);
    }

    private static void outByNumber() {
        LanternSteps x = longest();
        due.is("16: nobody", x.out(-1), 0);
        due.is("16: the first of nobody", x.out(0), NONE);
        for (int walker = 0; walker < 6; walker++) {
            x.walker(walker, walker, 5, 0);
            due.is("16: how many", x.out(-1), walker + 1);
            due.is("16: the last", x.out(walker), 0);
            due.is("16: behind the last", x.out(walker + 1), NONE);
        }
        for (int i = 0; i < 6; i++) {
            due.is("16: the nearest first, " + i, x.out(i), 5 - i);
        }
        for (int i : new int[] {6, 7, Integer.MAX_VALUE, -2, Integer.MIN_VALUE}) {
            due.is("16: out " + i, x.out(i), NONE);
        }
    }

    private static void decidesByNumber() {
        LanternSteps x = longest();
        due.is("19: all eleven", x.decides(-1), 11);
        for (int i = 0; i < 11; i++) {
            due.is("19: decides " + i, x.decides(i), 12 * i + i + 1);
        }
        for (int i : new int[] {11, 12, Integer.MAX_VALUE, -2, Integer.MIN_VALUE}) {
            due.is("19: decides " + i, x.decides(i), NONE);
        }
        x.plank(0, 11, 1, false);
        due.is("19: a ring", x.decides(-1), 0);
        due.is("19: the first of a ring", x.decides(0), NONE);
    }

    /** Of all 4096 sets those of six at most, and no others. */
    private static void setsOfRounds() {
        LanternSteps x = longest();
        int calls = 11;
        for (int set = 0; set < 4096; set++) {
            if (calls > 510) {
                x = longest();
                calls = 11;
            }
            int last = 31 - Integer.numberOfLeadingZeros(set);
            int due0 = Integer.bitCount(set) > 6 ? FULL : set == 0 ? 0 : 2 * 198 * last;
            due.is("17: round by " + set, x.round(0, set, 0), due0);
            int first = Integer.numberOfTrailingZeros(set);
            int due1 = Integer.bitCount(set) > 6 ? FULL : set == 0 ? NONE : first;
            due.is("17: first of " + set, x.round(0, set, 1), due1);
            calls += 2;
        }
        x = longest();
        for (int place = 0; place < 12; place++) {
            due.is("17: to itself", x.round(place, 1 << place, 0), 0);
            due.is("17: itself first", x.round(place, 1 << place, 1), place);
        }
    }

    private static void moreThan999() {
        LanternSteps x = longest();
        x.fog(true);
        for (int walker = 0; walker < 6; walker++) {
            x.walker(walker, 0, 11, 0);
            due.is("18: more for " + (walker + 1), x.more(0), 4356 * (walker + 1));
        }
        for (int walker = 0; walker < 6; walker++) {
            x.walker(walker, 0, 11, 999);
        }
        due.is("18: six with all light", x.more(0), 6 * (4356 - 999));
        x.fog(false);
        x.walker(0, 0, 1, 999);
        x.walker(1, 0, 1, 198);
        x.walker(2, 0, 5, 189);
        for (int walker = 3; walker < 6; walker++) {
            x.walker(walker, 1, 1, 999);
        }
        due.is("18: just enough", x.more(0), 0);
        x.walker(2, 0, 5, 188);
        due.is("18: one too little", x.more(0), 1);
        x.walker(2, 0, 5, 190);
        due.is("18: one too many", x.more(0), 0);
    }

    private static void mostThatPostCosts() {
        LanternSteps x = longest();
        x.fog(true);
        for (int walker = 0; walker < 6; walker++) {
            x.walker(walker, 4, walker < 3 ? 0 : 11, 0);
        }
        due.is("21: as dear everywhere: the least", x.post(0, 0), 0);
        due.is("21: together", x.post(0, 1), 3 * 4356);
        due.is("21: the lesser of both in the middle", x.post(1, 0), 5);
        due.is("21: the dearest", x.post(1, 1), 6 * 396);
        x.walker(0, 4, 11, 0);
        due.is("21: four of six at l", x.post(0, 0), 11);
        due.is("21: two ways together", x.post(0, 1), 2 * 4356);
    }

    private static void mostThatGoesBy() {
        LanternSteps x = new LanternSteps();
        for (int place = 0; place < 11; place++) {
            x.plank(place, 11, 1, false);
        }
        due.is("22: all by the middle of a star", x.by(11), 110);
        due.is("22: none by its end", x.by(0), 0);
    }

    private static void sights() {
        for (int place = 0; place < 12; place++) {
            LanternSteps x = new LanternSteps();
            x.walker(0, place, 0, 0);
            x.walker(1, place, 0, 999);
            x.walker(2, 11 - place, 0, 0);
            due.is("23: no light left", x.seen(place, 0), 1);
            due.is("25: whose, at " + place, x.whose(), 1);
            due.is("24: forget", x.forget(), 1);
            due.is("23: all light left", x.seen(place, 999), 1);
            due.is("25: whose, with 999 at " + place, x.whose(), 2);
        }
    }

    private static void tenths() {
        LanternSteps x = new LanternSteps();
        x.plank(0, 11, 99, true);
        x.walker(0, 0, 11, 395);
        x.walker(1, 0, 11, 396);
        x.walker(2, 0, 11, 197);
        long[] lower = {1, 10, 5, 10, 5, 2, 5, 10, 5, 10, 1};
        long[] upper = {1, 9, 4, 7, 3, 1, 2, 3, 1, 1, 0};
        for (int t = 0; t <= 10; t++) {
            due.is("27: upper, t " + t, x.chance(0, t, 0, 0), upper[t]);
            due.is("27: lower, t " + t, x.chance(0, t, 0, 1), lower[t]);
            due.is("27: surely, upper, t " + t, x.chance(1, t, 0, 0), 1);
            due.is("27: surely, lower, t " + t, x.chance(1, t, 0, 1), 1);
            due.is("27: never, upper, t " + t, x.chance(2, t, 0, 0), 0);
            due.is("27: never, lower, t " + t, x.chance(2, t, 0, 1), 1);
            due.is("27: mean, t " + t, x.chance(0, t, 1, 0) * 10, 198 * (10 + t) * x.chance(0, t, 1, 1));
            due.is("27: mean, lower, t " + t, x.chance(0, t, 1, 1), t % 5 == 0 ? 1 : 5);
        }
    }

    private static void seedsAndDraws() {
        LanternSteps x = new LanternSteps();
        // seed 872: 65474, walker 2 to place 4; seed 873: 65549 is 12 beyond 65537, walker 0 to place 2
        x.plank(0, 4, 3, false);
        x.plank(0, 2, 4, false);
        x.walker(2, 0, 4, 999);
        due.is("28: the last seed without a wrap", x.year(872, 1, 0), 3);
        due.is("28: C is at home", x.year(872, 1, 1), 1);
        x.walker(0, 0, 2, 999);
        due.is("28: the first seed with one", x.year(873, 1, 0), 4);
        due.is("28: A is at home", x.year(873, 1, 1), 1);
        // seed 9999: 749999 is 11 times 65537 and 29092, walker 4 to place 0; seed 0: 74, walker 2 to place 0
        x.walker(4, 2, 0, 4);
        due.is("28: the last seed", x.year(9999, 1, 0), 4);
        due.is("28: once", x.year(9999, 1, 2), 1);
        x.walker(2, 4, 0, 3);
        due.is("28: the first seed", x.year(0, 1, 0), 3);
        due.is("28: seed 10000", x.year(10000, 1, 0), OUTSIDE);
        due.is("28: seed -1", x.year(-1, 1, 0), OUTSIDE);
        walksOf99();
    }

    /** On a marsh of all planks, with light for all, each draw walks but those of fog and those to where one is. */
    private static void walksOf99() {
        for (int seed : new int[] {0, 1, 17, 5000, 9998, 9999}) {
            LanternSteps x = new LanternSteps();
            for (int code = 0; code < 144; code++) {
                if (code / 12 < code % 12) {
                    x.plank(code / 12, code % 12, 1, false);
                }
            }
            for (int walker = 0; walker < 6; walker++) {
                x.walker(walker, walker, 11, 999);
            }
            for (int m : new int[] {1, 2, 50, 98, 99}) {
                long[] want = walksOf(seed, m);
                for (int what = 0; what < 3; what++) {
                    due.is("28: year " + seed + ", " + m + ", " + what, x.year(seed, m, what), want[what]);
                }
            }
        }
    }

    private static long[] walksOf(int seed, int m) {
        long[] at = {0, 1, 2, 3, 4, 5};
        long x = seed;
        long fog = 1;
        long[] told = new long[3];
        for (int i = 0; i < m; i++) {
            x = (75 * x + 74) % 65537;
            long to = x / 6 % 12;
            if (x % 17 == 0) {
                fog = 3 - fog;
            } else if (at[(int) (x % 6)] != to) {
                at[(int) (x % 6)] = to;
                told[0] += fog;
                told[2]++;
            }
        }
        for (long place : at) {
            told[1] += place == 11 ? 1 : 0;
        }
        return told;
    }

    private static void images() {
        for (int k = 0; k < 2; k++) {
            LanternSteps x = new LanternSteps();
            due.is("30: nothing kept in " + k, x.restore(k), LanternSteps.STATE);
            due.is("29: image " + k, x.image(k), 1);
            due.is("30: the other is not kept", x.restore(1 - k), LanternSteps.STATE);
            x.plank(0, 11, 99, true);
            x.walker(5, 11, 11, 999);
            x.say('~');
            due.is("30: restore " + k, x.restore(k), 1);
            due.is("30: no planks", x.told(111), 0);
            due.is("30: nobody", x.told(1), 0);
            due.is("30: the pad is as it is", x.told(0), 1);
            due.is("30: once more", x.restore(k), 1);
            due.is("29: image once more", x.image(k), 1);
        }
    }

    /** Of all numbers from -20 to 300, which are told where all six are there. */
    private static void toldNumbers() {
        LanternSteps x = new LanternSteps();
        for (int walker = 0; walker < 6; walker++) {
            x.walker(walker, 11, 10, 998);
        }
        int[] ofWalker = {11, 10, 998, NONE};
        int[] counts = {0, 63, 0, 0};
        for (int what = -20; what <= 300; what++) {
            int want = OUTSIDE;
            if (what >= 0 && what < 4) {
                want = counts[what];
            } else if (what >= 10 && what < 70 && what % 10 < 4) {
                want = ofWalker[what % 10];
            } else if (what >= 100 && what < 244) {
                want = 0;
            }
            due.is("31: told(" + what + ")", x.told(what), want);
        }
    }

    private static void toldOfNobody() {
        LanternSteps x = new LanternSteps();
        for (int what = 4; what < 100; what++) {
            due.is("31: of nobody, told(" + what + ")", x.told(what), OUTSIDE);
        }
        x.walker(0, 1, 2, 3);
        due.is("31: A, where", x.told(10), 1);
        x.leave(0);
        due.is("31: A is no more", x.told(10), OUTSIDE);
    }
}
