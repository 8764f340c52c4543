/** That what only asks changes nothing, what keeps keeps all but the pad, and that 512 calls on one object are answered. */
public final class QuestionsTest {
    private static final int NONE = LanternSteps.NONE;

    private static final Due due = new Due("QuestionsTest");

    public static void main(String[] args) {
        eveningsAreOnlyAsked();
        waysAreOnlyAsked();
        yearsAreNotDone();
        padIsNoMatterForImages();
        refusedImageKeepsOld();
        doneOfNothing();
        fogAsItIs();
        manyPlanks();
        manyEvenings();
        manyChances();
        manyImages();
        due.end();
    }

    /** A call on the rich marsh, whatever it answers. */
    private static void onlyAsks(String text, Scenes.Call call) {
        LanternSteps x = Scenes.rich();
        call.on(x);
        Scenes.sameLook(due, text, x, Scenes.rich());
    }

    private static void eveningsAreOnlyAsked() {
        onlyAsks("8: fault", LanternSteps::fault);
        for (int what = 0; what < 3; what++) {
            int asked = what;
            onlyAsks("9: judge " + what, x -> x.judge(asked));
        }
        for (int what = 0; what < 4; what++) {
            int asked = what;
            onlyAsks("10: behind " + what, x -> x.behind(0, asked));
        }
        onlyAsks("11: who", x -> x.who(1));
    }

    private static void waysAreOnlyAsked() {
        onlyAsks("13: way", x -> x.way(0, 3, 0) + x.way(0, 3, 1));
        onlyAsks("14: far", x -> x.far(0));
        onlyAsks("15: left", x -> x.left(0));
        onlyAsks("16: out", x -> x.out(-1) + x.out(0));
        onlyAsks("17: round", x -> x.round(0, 14, 0) + x.round(0, 14, 1));
        onlyAsks("18: more", x -> x.more(0));
        onlyAsks("19: decides", x -> x.decides(-1) + x.decides(0));
        onlyAsks("20: wax", x -> x.wax(0) + x.wax(1));
        onlyAsks("21: post", x -> x.post(0, 0) + x.post(1, 1));
        onlyAsks("22: by", x -> x.by(1));
        onlyAsks("25: whose", LanternSteps::whose);
        onlyAsks("26: ask", x -> x.ask(0) + x.ask(1));
        onlyAsks("27: chance", x -> x.chance(0, 5, 0, 0) + x.chance(0, 5, 1, 1));
        onlyAsks("31: told", x -> x.told(0) + x.told(13) + x.told(101));
    }

    /** Nothing is done in fact, fog neither. */
    private static void yearsAreNotDone() {
        for (int seed : new int[] {0, 4, 873, 9999}) {
            for (int what = 0; what < 3; what++) {
                int asked = what;
                onlyAsks("28: year " + seed + ", " + what, x -> x.year(seed, 99, asked));
            }
        }
    }

    private static void padIsNoMatterForImages() {
        LanternSteps x = new LanternSteps();
        x.walker(0, 0, 0, 5);
        Due.say(x, "~~~");
        due.is("29: kept", x.image(0), 1);
        due.is("29: the pad stays", x.told(0), 3);
        x.say('A');
        due.is("30: restored", x.restore(0), 1);
        due.is("30: the pad is not as it was", x.told(0), 4);
        due.is("30: nor is the fault", x.fault(), 4);
        x.wipe();
        due.is("30: restored with nothing said", x.restore(0), 1);
        due.is("30: the pad is empty", x.told(0), 0);
        due.is("30: there is no fault", x.fault(), NONE);
        due.is("30: A is there", x.told(1), 1);
    }

    private static void refusedImageKeepsOld() {
        LanternSteps x = new LanternSteps();
        x.walker(0, 1, 2, 3);
        x.image(0);
        x.walker(0, 4, 5, 6);
        x.image(2);
        x.image(-1);
        x.restore(2);
        x.restore(1);
        due.is("30: as it is", x.told(10), 4);
        x.restore(0);
        due.is("30: as it was kept", x.told(10), 1);
        x.image(1);
        x.leave(0);
        x.image(0);
        x.restore(1);
        due.is("30: the other one is kept apart", x.told(1), 1);
        x.restore(0);
        due.is("30: nobody, as kept", x.told(1), 0);
    }

    private static void doneOfNothing() {
        LanternSteps x = Scenes.rich();
        LanternSteps y = Scenes.rich();
        x.wipe();
        y.wipe();
        due.is("12: no acts", x.done(), 0);
        Scenes.sameLook(due, "12: no acts", x, y);
    }

    private static void fogAsItIs() {
        LanternSteps x = Scenes.rich();
        due.is("5: it was not", x.fog(false), 0);
        Scenes.sameLook(due, "5: no fog as before", x, Scenes.rich());
        LanternSteps y = Scenes.foggy();
        due.is("5: it was", y.fog(true), 1);
        Scenes.sameLook(due, "5: fog as before", y, Scenes.foggy());
    }

    /** 512 calls: of two planks one after the other each number of steps, each told. */
    private static void manyPlanks() {
        LanternSteps x = new LanternSteps();
        int before = 0;
        for (int call = 0; call < 512; call += 2) {
            int steps = call % 100;
            due.is("call " + call, x.plank(0, 11, steps, call % 4 == 0), before);
            int code = steps == 0 ? 0 : 2 * steps + (call % 4 == 0 ? 1 : 0);
            due.is("call " + (call + 1), x.told(111), code);
            before = steps;
        }
    }

    /** 2 calls, then evenings of 5 calls each, 102 times: the last is the 512th. */
    private static void manyEvenings() {
        LanternSteps x = new LanternSteps();
        x.plank(0, 1, 4, false);
        x.walker(0, 0, 1, 999);
        int light = 999;
        boolean fog = false;
        for (int evening = 0; evening < 102; evening++) {
            int costs = fog ? 8 : 4;
            fog = !fog;
            due.is("6: evening " + evening, x.say('A'), 1);
            due.is("6: evening " + evening, x.say(evening % 2 == 0 ? 'b' : 'a'), 2);
            due.is("6: evening " + evening, x.say('~'), 3);
            due.is("12: evening " + evening, x.done(), 2);
            light -= costs;
            due.is("31: evening " + evening, x.told(12), light);
        }
    }

    /** 12 calls, then the dearest question 500 times. */
    private static void manyChances() {
        LanternSteps x = new LanternSteps();
        for (int place = 0; place < 11; place++) {
            x.plank(place, place + 1, 1 + place % 3, true);
        }
        x.walker(0, 0, 11, 50);
        long upper = x.chance(0, 3, 0, 0);
        long lower = x.chance(0, 3, 0, 1);
        for (int call = 14; call < 512; call += 2) {
            due.is("27: call " + call, x.chance(0, 3, 0, 0), upper);
            due.is("27: call " + (call + 1), x.chance(0, 3, 0, 1), lower);
        }
    }

    /** 512 calls: kept, changed, restored, told. */
    private static void manyImages() {
        LanternSteps x = new LanternSteps();
        for (int call = 0; call < 512; call += 4) {
            int k = call / 4 % 2;
            due.is("29: call " + call, x.image(k), 1);
            due.is("3: call " + (call + 1), x.walker(call / 4 % 6, 0, 0, call), 1);
            due.is("30: call " + (call + 2), x.restore(k), 1);
            due.is("31: call " + (call + 3), x.told(1), 0);
        }
    }
}
