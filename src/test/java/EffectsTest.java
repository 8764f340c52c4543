/** What each call that changes something changes, and that it changes nothing else: all else is as on a twin. */
public final class EffectsTest {
    private static final int OUTSIDE = LanternSteps.OUTSIDE;
    private static final int NONE = LanternSteps.NONE;

    private static final Due due = new Due("EffectsTest");

    public static void main(String[] args) {
        planks();
        walkers();
        leaving();
        fogAndPad();
        doing();
        sights();
        images();
        restoring();
        objectsAreApart();
        due.end();
    }

    /** All that told takes: signs, walkers, fog, sights; of each walker four; of each two places one. */
    private static boolean isTold(int what) {
        return what < 4 || what >= 10 && what < 70 && what % 10 < 4 || what >= 100;
    }

    private static int[] toldOf(LanternSteps x) {
        int[] told = new int[244];
        for (int what = 0; what < 244; what++) {
            told[what] = isTold(what) ? x.told(what) : 0;
        }
        return told;
    }

    private static void same(String text, int[] got, int[] want) {
        for (int what = 0; what < 244; what++) {
            due.is(text + ", told(" + what + ")", got[what], want[what]);
        }
    }

    /** Changes come by twos: a number of told, and what it tells then; the image is as it was. */
    private static void changes(String text, Scenes.Call call, long want, int... changes) {
        LanternSteps x = Scenes.rich();
        LanternSteps twin = Scenes.rich();
        due.is(text, call.on(x), want);
        int[] due0 = toldOf(twin);
        for (int i = 0; i + 1 < changes.length; i += 2) {
            due0[changes[i]] = changes[i + 1];
        }
        same(text, toldOf(x), due0);
        int signs = due0[0];
        due.is(text + ", the image", x.restore(0), twin.restore(0));
        int[] kept = toldOf(twin);
        kept[0] = signs;
        same(text + ", of the image", toldOf(x), kept);
    }

    private static void planks() {
        changes("2: another plank", x -> x.plank(0, 1, 9, true), 7, 101, 19, 112, 19);
        changes("2: dry", x -> x.plank(2, 1, 10, false), 10, 114, 20, 125, 20);
        changes("2: as it is", x -> x.plank(1, 2, 10, true), 10);
        changes("2: none", x -> x.plank(1, 0, 0, true), 7, 101, 0, 112, 0);
        changes("2: a new one", x -> x.plank(4, 5, 1, false), 0, 153, 2, 164, 2);
        changes("2: the last two places", x -> x.plank(11, 10, 1, true), 99, 231, 3, 242, 3);
        changes("2: none where none is", x -> x.plank(4, 5, 0, true), 0);
    }

    private static void walkers() {
        changes("3: D is there", x -> x.walker(3, 7, 8, 9), 6, 1, 63, 40, 7, 41, 8, 42, 9, 43, NONE);
        changes("3: A anew", x -> x.walker(0, 7, 8, 9), 5, 10, 7, 11, 8, 12, 9);
        changes("3: C anew, who carries E", x -> x.walker(2, 7, 8, 9), 5, 30, 7, 31, 8, 32, 9, 33, NONE);
        changes("3: C as he is, who carries E", x -> x.walker(2, 0, 2, 999), 5, 33, NONE);
        changes("3: E anew, whom C carries", x -> x.walker(4, 7, 8, 9), 5, 50, 7, 51, 8, 52, 9, 33, NONE);
        changes("3: E as he is, whom C carries", x -> x.walker(4, 0, 5, 40), 5, 33, NONE);
    }

    private static void leaving() {
        changes("4: A leaves", x -> x.leave(0), 4, 1, 54, 10, OUTSIDE, 11, OUTSIDE, 12, OUTSIDE, 13, OUTSIDE);
        changes("4: C leaves, who carries E", x -> x.leave(2), 4,
            1, 51, 30, OUTSIDE, 31, OUTSIDE, 32, OUTSIDE, 33, OUTSIDE);
        changes("4: E leaves, whom C carries", x -> x.leave(4), 4,
            1, 39, 50, OUTSIDE, 51, OUTSIDE, 52, OUTSIDE, 53, OUTSIDE, 33, NONE);
        changes("4: C leaves and comes again", x -> x.leave(2) + x.walker(2, 0, 2, 999), 4 + 5, 33, NONE);
        changes("4: E leaves and comes again", x -> x.leave(4) + x.walker(4, 0, 5, 40), 4 + 5, 33, NONE);
        LanternSteps y = Scenes.rich();
        y.leave(2);
        y.wipe();
        due.is("4: E is not carried by who left", y.behind(4, 3), NONE);
        y.walker(2, 0, 2, 999);
        due.is("4: nor by him when he is there again", y.behind(4, 3), NONE);
        Due.say(y, "E+C");
        due.is("4: he can carry now", y.done(), 1);
    }

    private static void fogAndPad() {
        changes("5: fog", x -> x.fog(true), 0, 2, 1);
        changes("5: no fog", x -> x.fog(false), 0);
        changes("6: a sign", x -> x.say('A'), 7, 0, 7);
        changes("6: a sign that can not stand there", x -> x.say('!'), 7, 0, 7);
        changes("7: wiped", LanternSteps::wipe, 6, 0, 0);
    }

    /** AbA5B~: A walks for 7 and gives 50 to B, then there is fog. */
    private static void doing() {
        changes("12: done", LanternSteps::done, 3, 0, 0, 2, 1, 10, 1, 12, 43, 22, 62);
        changes("12: done with C, who carries E", x -> {
            Due.sayAnew(x, "CbC-Eb~~");
            return x.done();
        }, LanternSteps.STATE, 0, 8);
        changes("12: without the walk that can not be", x -> {
            Due.sayAnew(x, "CbC-Ea~~~");
            return x.done();
        }, 6, 0, 0, 2, 1, 30, 1, 32, 992, 33, NONE, 52, 33);
    }

    private static void sights() {
        changes("23: a sight", x -> x.seen(5, 5), 2, 3, 2);
        changes("24: forgotten", LanternSteps::forget, 1, 3, 0);
    }

    private static void images() {
        changes("29: another image", x -> x.image(1), 1);
        LanternSteps x = Scenes.rich();
        due.is("29: the image anew", x.image(0), 1);
        same("29: the image anew", toldOf(x), toldOf(Scenes.rich()));
        x.plank(0, 1, 0, false);
        x.leave(2);
        x.fog(true);
        x.forget();
        due.is("30: it is now that of then", x.restore(0), 1);
        same("30: that of then", toldOf(x), toldOf(Scenes.rich()));
        due.is("30: whose was that of then", x.whose(), Scenes.rich().whose());
    }

    /** a-b 3 wet, h-i 44; D is at h, his home i, his light 55; fog; one sight; the pad is as it is. */
    private static void restoring() {
        LanternSteps x = Scenes.rich();
        due.is("30: restored", x.restore(0), 1);
        int[] want = new int[244];
        want[0] = 6;
        want[1] = 8;
        want[2] = 1;
        want[3] = 1;
        for (int walker = 0; walker < 6; walker++) {
            for (int what = 0; what < 4; what++) {
                want[10 * (1 + walker) + what] = OUTSIDE;
            }
        }
        want[40] = 7;
        want[41] = 8;
        want[42] = 55;
        want[43] = NONE;
        want[101] = 7;
        want[112] = 7;
        want[100 + 12 * 7 + 8] = 88;
        want[100 + 12 * 8 + 7] = 88;
        same("30: restored", toldOf(x), want);
        due.is("30: the other was not kept", x.restore(1), LanternSteps.STATE);
    }

    /** What is called on one object is no matter to another. */
    private static void objectsAreApart() {
        LanternSteps x = Scenes.rich();
        int[] before = toldOf(x);
        LanternSteps y = new LanternSteps();
        due.is("1: a new object beside one that is used", y.told(1), 0);
        due.is("1: no plank there", y.way(0, 1, 0), NONE);
        due.is("1: no image there", y.restore(0), LanternSteps.STATE);
        y.plank(0, 1, 50, true);
        y.walker(0, 5, 5, 5);
        y.fog(true);
        y.seen(0, 0);
        Due.say(y, "Ab");
        y.image(0);
        y.year(1, 9, 0);
        y.judge(0);
        due.is("13: its way", y.way(0, 1, 0), 200);
        same("1: the other one", toldOf(x), before);
        due.is("13: the way of the other", x.way(0, 1, 0), 7);
        due.is("9: the evening of the other", x.judge(2), 7);
        due.is("30: the image of the other", x.restore(0), 1);
        due.is("30: is its own", x.told(1), 8);
    }
}
