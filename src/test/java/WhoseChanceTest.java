/** Promises 23 to 31: seen, forget, whose, ask, chance, year, image, restore, told. */
public final class WhoseChanceTest {
    private static final Due due = new Due("WhoseChanceTest");

    public static void main(String[] args) {
        seen();
        whose();
        ask();
        chance();
        chanceOfMany();
        chanceRefused();
        year();
        yearOfCarried();
        yearRefused();
        images();
        imagesRefused();
        told();
        due.end();
    }

    /** A row a-b 1, b-c 2, c-d 3 (wet), and e apart. */
    private static LanternSteps row() {
        LanternSteps x = new LanternSteps();
        x.plank(0, 1, 1, false);
        x.plank(1, 2, 2, false);
        x.plank(2, 3, 3, true);
        return x;
    }

    private static void seen() {
        LanternSteps x = row();
        due.is("23: place -1", x.seen(-1, 0), LanternSteps.UNKNOWN);
        due.is("23: place 12", x.seen(12, 1000), LanternSteps.UNKNOWN);
        due.is("23: light -1", x.seen(0, -1), LanternSteps.OUTSIDE);
        due.is("23: light 1000", x.seen(0, 1000), LanternSteps.OUTSIDE);
        due.is("23: none yet", x.told(3), 0);
        due.is("24: none to forget", x.forget(), 0);
        for (int i = 1; i <= 8; i++) {
            due.is("23: sight " + i, x.seen(i == 1 ? 0 : 11, i == 1 ? 0 : 999), i);
        }
        due.is("23: full", x.seen(0, 0), LanternSteps.FULL);
        due.is("23: outside comes first", x.seen(0, 1000), LanternSteps.OUTSIDE);
        due.is("23: told", x.told(3), 8);
        due.is("24: forget", x.forget(), 8);
        due.is("24: told", x.told(3), 0);
        due.is("23: again", x.seen(0, 0), 1);
    }

    private static void whose() {
        LanternSteps x = row();
        due.is("25: nobody", x.whose(), 0);
        x.walker(0, 0, 0, 10);
        x.walker(1, 3, 0, 15);
        x.walker(2, 1, 0, 9);
        x.walker(3, 4, 0, 7);
        due.is("25: no sight: all", x.whose(), 15);
        x.seen(2, 7);
        due.is("25: 10-3, 9-2, not 15-6, no way", x.whose(), 5);
        x.seen(1, 9);
        due.is("25: both had 9 at b", x.whose(), 5);
        x.seen(0, 8);
        due.is("25: only C had 8 at a", x.whose(), 4);
        x.seen(0, 10);
        due.is("25: no one had both", x.whose(), 0);
        x.forget();
        x.seen(3, 1);
        due.is("25: A had 1 at d", x.whose(), 5);
        x.fog(true);
        due.is("25: not in fog", x.whose(), 0);
        x.forget();
        x.seen(4, 7);
        due.is("25: where he is", x.whose(), 8);
        x.leave(3);
        due.is("25: who left is it not", x.whose(), 0);
        x.forget();
        x.fog(false);
        x.seen(0, 0);
        x.walker(2, 3, 0, 8);
        due.is("25: too little light is not 0", x.whose(), 0);
        x.walker(2, 3, 0, 9);
        due.is("25: just", x.whose(), 4);
    }

    private static void ask() {
        LanternSteps x = row();
        due.is("26: nobody", x.ask(0), LanternSteps.NONE);
        due.is("26: nobody", x.ask(1), LanternSteps.NONE);
        x.walker(0, 0, 0, 10);
        due.is("26: one: the least place", x.ask(0), 0);
        due.is("26: one", x.ask(1), 1);
        x.walker(2, 1, 0, 9);
        due.is("26: a tells them apart", x.ask(0), 0);
        x.walker(0, 1, 0, 10);
        x.walker(2, 0, 0, 9);
        due.is("26: 9 and 9 at a is no use: 10-1 and 9; b is", x.ask(0), 1);
        due.is("26: one is left", x.ask(1), 1);
        x.walker(3, 5, 0, 3);
        x.walker(4, 6, 0, 4);
        x.walker(5, 7, 0, 5);
        due.is("26: D, E, F can not come to b", x.ask(1), 3);
        due.is("26: a as well: 2 and 3", x.ask(0), 0);
        x.plank(5, 6, 1, false);
        x.plank(6, 7, 1, false);
        due.is("26: by g two are left at the most", x.ask(1), 2);
        due.is("26: g: 2, 4, 4 and none, none", x.ask(0), 6);
        x.seen(1, 8);
        due.is("26: only C had 8 at b", x.ask(1), 1);
        due.is("26: any place", x.ask(0), 0);
        x.seen(1, 9);
        due.is("26: nobody fits", x.ask(0), LanternSteps.NONE);
        due.is("26: nobody fits", x.ask(1), LanternSteps.NONE);
        due.is("26: what 2", x.ask(2), LanternSteps.OUTSIDE);
        due.is("26: what -1", x.ask(-1), LanternSteps.OUTSIDE);
        LanternSteps y = row();
        y.walker(0, 9, 0, 5);
        y.walker(1, 9, 0, 5);
        due.is("26: alike everywhere", y.ask(1), 2);
        due.is("26: the least", y.ask(0), 0);
        for (int walker = 0; walker < 6; walker++) {
            y.walker(walker, 11, 0, 5);
        }
        due.is("26: six alike", y.ask(1), 6);
        due.is("26: the least, too", y.ask(0), 0);
    }

    private static void chance(LanternSteps x, int t, long upper, long lower, long meanUpper, long meanLower) {
        due.is("27: chance upper, t " + t, x.chance(0, t, 0, 0), upper);
        due.is("27: chance lower, t " + t, x.chance(0, t, 0, 1), lower);
        due.is("27: mean upper, t " + t, x.chance(0, t, 1, 0), meanUpper);
        due.is("27: mean lower, t " + t, x.chance(0, t, 1, 1), meanLower);
    }

    private static void chance() {
        LanternSteps x = row();
        x.walker(0, 0, 3, 11);
        // planks 1, 2, 6: all twice 18; enough: 9 and at most 2 more: none, the 1, the 2, not both
        chance(x, 0, 1, 1, 9, 1);
        chance(x, 5, 3, 8, 27, 2);
        chance(x, 2, 96, 125, 54, 5);
        chance(x, 10, 0, 1, 18, 1);
    }

    private static void chance(LanternSteps x, int t, int light, long upper, long lower) {
        x.walker(0, 0, 3, light);
        due.is("27: light " + light, x.chance(0, t, 0, 0), upper);
        due.is("27: light " + light, x.chance(0, t, 0, 1), lower);
    }

    private static void chanceOfMany() {
        LanternSteps x = row();
        chance(x, 5, 8, 0, 1);
        chance(x, 5, 9, 1, 8);
        chance(x, 5, 10, 1, 4);
        chance(x, 5, 12, 1, 2);
        chance(x, 5, 17, 7, 8);
        chance(x, 5, 18, 1, 1);
        x.walker(0, 3, 3, 0);
        chance(x, 7, 1, 1, 0, 1);
        LanternSteps y = new LanternSteps();
        for (int place = 0; place < 11; place++) {
            y.plank(place, place + 1, 1, false);
        }
        y.walker(0, 0, 11, 21);
        due.is("27: all but all twice", y.chance(0, 3, 0, 1), 100000000000L);
        due.is("27: of eleven", y.chance(0, 3, 0, 0), 100000000000L - 177147L);
        y.walker(0, 0, 11, 11);
        due.is("27: none twice", y.chance(0, 3, 0, 0), 1977326743L);
        // of two ways as dear, that by the least place first: one plank of 2 there, two of 1 and 1 by b
        LanternSteps z = new LanternSteps();
        z.plank(0, 2, 2, false);
        z.plank(0, 1, 1, false);
        z.plank(1, 2, 1, false);
        z.walker(0, 0, 2, 3);
        due.is("27: by b", z.chance(0, 5, 0, 0), 3);
        due.is("27: by b", z.chance(0, 5, 0, 1), 4);
        z.walker(0, 2, 0, 3);
        due.is("27: back: a at once", z.chance(0, 5, 0, 1), 2);
    }

    private static void chanceRefused() {
        LanternSteps x = row();
        x.walker(0, 0, 3, 11);
        x.walker(1, 0, 4, 11);
        long gone = LanternSteps.GONE;
        due.is("27: nobody", x.chance(2, 11, 0, 0), gone - 1);
        due.is("27: -1", x.chance(-1, 5, 0, 0), gone - 1);
        due.is("27: 6", x.chance(6, 5, 0, 0), gone - 1);
        due.is("27: t 11", x.chance(0, 11, 0, 0), gone - 2);
        due.is("27: t -1", x.chance(0, -1, 0, 0), gone - 2);
        due.is("27: what 2", x.chance(0, 5, 2, 0), gone - 2);
        due.is("27: what -1", x.chance(0, 5, -1, 0), gone - 2);
        due.is("27: part 2", x.chance(1, 5, 0, 2), gone - 2);
        due.is("27: part -1", x.chance(0, 5, 0, -1), gone - 2);
        due.is("27: no way", x.chance(1, 5, 0, 0), gone - 3);
        due.is("27: no way, no mean", x.chance(1, 5, 1, 1), gone - 3);
        x.fog(true);
        due.is("27: fog", x.chance(0, 5, 0, 0), gone - 3);
        x.walker(0, 3, 3, 11);
        due.is("27: fog at home", x.chance(0, 5, 1, 0), gone - 3);
    }

    private static void year() {
        LanternSteps x = new LanternSteps();
        // seed 0: x is 74: walker 2 to place 0; then 5624: walker 2 to place 1; then 28652: walker 2 to place 11
        x.walker(2, 1, 0, 100);
        due.is("28: no plank", x.year(0, 1, 2), 0);
        due.is("28: not at home", x.year(0, 1, 1), 0);
        x.plank(0, 1, 10, true);
        due.is("28: C walks home", x.year(0, 1, 0), 20);
        due.is("28: at home", x.year(0, 1, 1), 1);
        due.is("28: once", x.year(0, 1, 2), 1);
        due.is("28: and away", x.year(0, 2, 0), 40);
        due.is("28: not at home", x.year(0, 2, 1), 0);
        due.is("28: twice", x.year(0, 2, 2), 2);
        x.plank(1, 11, 3, false);
        due.is("28: the third goes beyond 65537", x.year(0, 3, 0), 43);
        due.is("28: thrice", x.year(0, 3, 2), 3);
        x.fog(true);
        due.is("28: in fog", x.year(0, 2, 0), 80);
        x.walker(2, 1, 0, 79);
        due.is("28: too dark for the second", x.year(0, 2, 0), 40);
        due.is("28: so he stays at home", x.year(0, 2, 1), 1);
        due.is("28: nothing is done", x.told(30), 1);
        due.is("28: nor light gone", x.told(32), 79);
        // seed 2: x is 224: walker 2 to place 1; seed 4: 374 is 22 times 17
        due.is("28: from where he is", x.year(2, 1, 2), 0);
        x.walker(2, 0, 0, 79);
        due.is("28: seed 2", x.year(2, 1, 0), 40);
        due.is("28: 374 turns the fog", x.year(4, 1, 2), 0);
        due.is("28: the fog stays in fact", x.told(2), 1);
        // seed 4, on: 374, then 28124: walker 2 to place 7
        x.plank(0, 7, 9, false);
        due.is("28: without fog then", x.year(4, 2, 0), 9);
        x.fog(false);
        due.is("28: in fog then", x.year(4, 2, 0), 18);
    }

    private static void yearOfCarried() {
        LanternSteps x = new LanternSteps();
        x.plank(0, 1, 10, false);
        x.walker(2, 1, 5, 100);
        x.walker(0, 1, 0, 100);
        Due.say(x, "C+A");
        x.done();
        x.say('A');
        due.is("28: A is carried home", x.year(0, 1, 1), 1);
        due.is("28: for ten", x.year(0, 1, 0), 10);
        Due.sayAnew(x, "C-A+C");
        x.done();
        due.is("28: who is carried can not walk", x.year(0, 1, 2), 0);
        due.is("28: nobody is at home", x.year(0, 1, 1), 0);
    }

    private static void yearRefused() {
        LanternSteps x = new LanternSteps();
        due.is("28: seed -1", x.year(-1, 1, 0), LanternSteps.OUTSIDE);
        due.is("28: seed 10000", x.year(10000, 1, 0), LanternSteps.OUTSIDE);
        due.is("28: m 0", x.year(0, 0, 0), LanternSteps.OUTSIDE);
        due.is("28: m 100", x.year(0, 100, 0), LanternSteps.OUTSIDE);
        due.is("28: what 3", x.year(0, 1, 3), LanternSteps.OUTSIDE);
        due.is("28: what -1", x.year(0, 1, -1), LanternSteps.OUTSIDE);
        due.is("28: the ends", x.year(9999, 99, 2), 0);
    }

    private static void images() {
        LanternSteps x = row();
        x.walker(0, 0, 3, 50);
        x.walker(1, 0, 2, 40);
        x.seen(2, 7);
        Due.say(x, "A+B");
        x.done();
        Due.say(x, "Ab");
        due.is("29: kept", x.image(0), 1);
        x.plank(0, 1, 9, true);
        x.plank(5, 6, 9, true);
        x.walker(0, 4, 5, 6);
        x.walker(5, 5, 5, 5);
        x.fog(true);
        x.seen(3, 8);
        due.is("29: another", x.image(1), 1);
        x.wipe();
        x.say('~');
        due.is("30: restored", x.restore(0), 1);
        due.is("30: steps", x.told(101), 2);
        due.is("30: no plank", x.told(100 + 66), 0);
        due.is("30: way", x.way(0, 3, 0), 9);
        due.is("30: walkers", x.told(1), 3);
        due.is("30: where", x.told(10), 0);
        due.is("30: home", x.told(11), 3);
        due.is("30: light", x.told(12), 50);
        due.is("30: carries", x.told(13), 1);
        due.is("30: carried", x.behind(1, 3), 0);
        due.is("30: fog", x.told(2), 0);
        due.is("30: sights", x.told(3), 1);
        due.is("30: whose", x.whose(), 0);
        due.is("30: the pad is as it is", x.told(0), 1);
        due.is("30: the other one", x.restore(1), 1);
        due.is("30: fog", x.told(2), 1);
        due.is("30: way", x.way(0, 3, 0), 36 + 4 + 12);
        due.is("30: walkers", x.told(1), 35);
        due.is("30: light", x.told(12), 6);
        due.is("30: sights", x.told(3), 2);
        due.is("30: nobody carries", x.told(13), LanternSteps.NONE);
        due.is("30: an image is kept on", x.restore(0), 1);
        due.is("30: light", x.told(12), 50);
        x.leave(0);
        due.is("29: kept anew", x.image(0), 1);
        x.restore(1);
        x.restore(0);
        due.is("30: as it was last kept", x.told(1), 2);
        due.is("30: way", x.way(0, 3, 0), 9);
        x.forget();
        x.restore(0);
        x.seen(1, 1);
        x.restore(1);
        x.forget();
        x.restore(0);
        due.is("30: sights come again", x.told(3), 1);
        x.forget();
        x.walker(0, 0, 0, 10);
        x.walker(1, 1, 0, 10);
        x.seen(2, 7);
        x.image(0);
        x.forget();
        x.seen(1, 10);
        due.is("30: B now", x.whose(), 2);
        x.restore(0);
        due.is("30: A by the sight that was kept", x.whose(), 1);
    }

    private static void imagesRefused() {
        LanternSteps x = new LanternSteps();
        due.is("29: -1", x.image(-1), LanternSteps.OUTSIDE);
        due.is("29: 2", x.image(2), LanternSteps.OUTSIDE);
        due.is("30: -1", x.restore(-1), LanternSteps.OUTSIDE);
        due.is("30: 2", x.restore(2), LanternSteps.OUTSIDE);
        due.is("30: it was not", x.restore(1), LanternSteps.STATE);
        x.image(0);
        due.is("30: the other was not", x.restore(1), LanternSteps.STATE);
        due.is("30: this was", x.restore(0), 1);
    }

    private static void told() {
        LanternSteps x = row();
        x.walker(5, 1, 2, 3);
        x.walker(4, 1, 4, 5);
        Due.say(x, "F+E");
        due.is("31: signs", x.told(0), 3);
        x.done();
        x.seen(0, 0);
        x.fog(true);
        due.is("31: no signs", x.told(0), 0);
        due.is("31: walkers", x.told(1), 48);
        due.is("31: fog", x.told(2), 1);
        due.is("31: sights", x.told(3), 1);
        int[] wantF = {1, 2, 3, 4};
        int[] wantE = {1, 4, 5, LanternSteps.NONE};
        for (int i = 0; i < 4; i++) {
            due.is("31: F " + i, x.told(60 + i), wantF[i]);
            due.is("31: E " + i, x.told(50 + i), wantE[i]);
            due.is("31: nobody", x.told(10 + i), LanternSteps.OUTSIDE);
        }
        due.is("31: dry", x.told(100 + 12 + 2), 4);
        due.is("31: wet, in fog as ever", x.told(100 + 24 + 3), 7);
        due.is("31: back", x.told(100 + 36 + 2), 7);
        due.is("31: b to a", x.told(100 + 12), 2);
        due.is("31: a to b", x.told(100 + 1), 2);
        due.is("31: one place", x.told(100), 0);
        due.is("31: the last", x.told(243), 0);
        int[] outside = {-1, 4, 9, 14, 19, 54, 64, 69, 70, 73, 99, 244, 1000, Integer.MIN_VALUE, Integer.MAX_VALUE};
        for (int what : outside) {
            due.is("31: told(" + what + ")", x.told(what), LanternSteps.OUTSIDE);
        }
    }
}
