/** Calls that are refused for two reasons at once, or three: which of them is told, and that nothing is changed. */
public final class TwoReasonsTest {
    private static final int UNKNOWN = LanternSteps.UNKNOWN;
    private static final int OUTSIDE = LanternSteps.OUTSIDE;
    private static final int STATE = LanternSteps.STATE;
    private static final int FULL = LanternSteps.FULL;
    private static final int NO = LanternSteps.NO;
    private static final long GONE = LanternSteps.GONE;

    private static final int SEVEN = 127;

    private static final Due due = new Due("TwoReasonsTest");

    public static void main(String[] args) {
        planksAndWalkers();
        signs();
        evenings();
        behind();
        whoAndDone();
        ways();
        rounds();
        sights();
        chances();
        severalOutside();
        refusedBeforeNone();
        restoring();
        due.end();
    }

    private static void rich(String text, Scenes.Call call, long want) {
        Scenes.changesNothing(due, text, Scenes::rich, call, want);
    }

    private static void planksAndWalkers() {
        rich("2: unknown place, 100 steps", x -> x.plank(12, 1, 100, false), UNKNOWN);
        rich("2: unknown other, -1 steps", x -> x.plank(0, -1, -1, false), UNKNOWN);
        rich("2: both are one, 100 steps", x -> x.plank(3, 3, 100, true), UNKNOWN);
        rich("2: both are one, -1 steps", x -> x.plank(3, 3, -1, true), UNKNOWN);
        rich("3: unknown number, light 1000", x -> x.walker(6, 0, 0, 1000), UNKNOWN);
        rich("3: unknown place, light -1", x -> x.walker(0, -1, 0, -1), UNKNOWN);
        rich("3: unknown home, light 1000", x -> x.walker(0, 0, 12, 1000), UNKNOWN);
        rich("3: all four", x -> x.walker(-1, 12, 12, 1000), UNKNOWN);
    }

    private static void signs() {
        for (int sign : new int[] {32, 127, -1}) {
            Scenes.changesNothing(due, "6: full, and " + sign, Scenes::withFullPad, x -> x.say(sign), OUTSIDE);
        }
    }

    private static void evenings() {
        Scenes.changesNothing(due, "9: a fault, what 3", Scenes::faulty, x -> x.judge(3), OUTSIDE);
        Scenes.changesNothing(due, "9: a fault, what -1", Scenes::faulty, x -> x.judge(-1), OUTSIDE);
        Scenes.changesNothing(due, "9: it can not be, what 3", Scenes::barred, x -> x.judge(3), OUTSIDE);
        for (int what = 0; what < 3; what++) {
            int asked = what;
            Scenes.changesNothing(due, "9: a fault, and it can not be, " + what, Scenes::barredAndFaulty,
                x -> x.judge(asked), NO);
        }
    }

    private static void behind() {
        rich("10: nobody, what 4", x -> x.behind(3, 4), UNKNOWN);
        rich("10: walker -1, what -1", x -> x.behind(-1, -1), UNKNOWN);
        Scenes.changesNothing(due, "10: nobody, a fault", Scenes::faulty, x -> x.behind(3, 0), UNKNOWN);
        Scenes.changesNothing(due, "10: nobody, it can not be", Scenes::barred, x -> x.behind(6, 0), UNKNOWN);
        Scenes.changesNothing(due, "10: what 4, a fault", Scenes::faulty, x -> x.behind(0, 4), OUTSIDE);
        Scenes.changesNothing(due, "10: what -1, it can not be", Scenes::barred, x -> x.behind(0, -1), OUTSIDE);
        Scenes.changesNothing(due, "10: a fault, and it can not be", Scenes::barredAndFaulty,
            x -> x.behind(0, 0), NO);
        Scenes.changesNothing(due, "10: all four", Scenes::barredAndFaulty, x -> x.behind(3, 4), UNKNOWN);
    }

    private static void whoAndDone() {
        Scenes.changesNothing(due, "11: place 12, a fault", Scenes::faulty, x -> x.who(12), UNKNOWN);
        Scenes.changesNothing(due, "11: place -1, it can not be", Scenes::barred, x -> x.who(-1), UNKNOWN);
        Scenes.changesNothing(due, "11: a fault, and it can not be", Scenes::barredAndFaulty, x -> x.who(0), NO);
        Scenes.changesNothing(due, "12: a fault, and it can not be", Scenes::barredAndFaulty, LanternSteps::done, NO);
    }

    private static void ways() {
        rich("13: from 12, what 2", x -> x.way(12, 0, 2), UNKNOWN);
        rich("13: to -1, what -1", x -> x.way(0, -1, -1), UNKNOWN);
    }

    private static void rounds() {
        rich("17: place 12, what 2", x -> x.round(12, 1, 2), UNKNOWN);
        rich("17: set 4096, what 2", x -> x.round(0, 4096, 2), UNKNOWN);
        rich("17: set -1, what -1", x -> x.round(0, -1, -1), UNKNOWN);
        rich("17: place 12, seven", x -> x.round(12, SEVEN, 0), UNKNOWN);
        rich("17: a set beyond 4095 of more than six", x -> x.round(0, 8191, 0), UNKNOWN);
        rich("17: what 2, seven", x -> x.round(0, SEVEN, 2), OUTSIDE);
        rich("17: what -1, seven", x -> x.round(0, SEVEN, -1), OUTSIDE);
        rich("17: all three", x -> x.round(-1, SEVEN, 2), UNKNOWN);
    }

    private static void sights() {
        rich("23: place 12, light 1000", x -> x.seen(12, 1000), UNKNOWN);
        rich("23: place -1, light -1", x -> x.seen(-1, -1), UNKNOWN);
        Scenes.changesNothing(due, "23: full, place 12", Scenes::withEightSights, x -> x.seen(12, 0), UNKNOWN);
        Scenes.changesNothing(due, "23: full, light 1000", Scenes::withEightSights, x -> x.seen(0, 1000), OUTSIDE);
        Scenes.changesNothing(due, "23: full, light -1", Scenes::withEightSights, x -> x.seen(0, -1), OUTSIDE);
        Scenes.changesNothing(due, "23: all three", Scenes::withEightSights, x -> x.seen(-1, -1), UNKNOWN);
    }

    private static void chances() {
        rich("27: nobody, t 11", x -> x.chance(3, 11, 0, 0), GONE + UNKNOWN);
        rich("27: nobody, what 2", x -> x.chance(3, 5, 2, 0), GONE + UNKNOWN);
        rich("27: nobody, part 2", x -> x.chance(6, 5, 0, 2), GONE + UNKNOWN);
        Scenes.changesNothing(due, "27: nobody, fog", Scenes::foggy, x -> x.chance(3, 5, 0, 0), GONE + UNKNOWN);
        Scenes.changesNothing(due, "27: t 11, fog", Scenes::foggy, x -> x.chance(0, 11, 0, 0), GONE + OUTSIDE);
        Scenes.changesNothing(due, "27: what 2, fog", Scenes::foggy, x -> x.chance(0, 5, 2, 0), GONE + OUTSIDE);
        Scenes.changesNothing(due, "27: part -1, fog", Scenes::foggy, x -> x.chance(0, 5, 0, -1), GONE + OUTSIDE);
        rich("27: t -1, no way", x -> x.chance(4, -1, 0, 0), GONE + OUTSIDE);
        rich("27: what -1, no way", x -> x.chance(4, 5, -1, 0), GONE + OUTSIDE);
        rich("27: part 2, no way", x -> x.chance(4, 5, 0, 2), GONE + OUTSIDE);
        Scenes.changesNothing(due, "27: no way, fog", Scenes::foggy, x -> x.chance(4, 5, 0, 0), GONE + STATE);
        Scenes.changesNothing(due, "27: all three", Scenes::foggy, x -> x.chance(3, 11, 2, 2), GONE + UNKNOWN);
    }

    private static void severalOutside() {
        rich("21: what 2, part 2", x -> x.post(2, 2), OUTSIDE);
        rich("21: what -1, part -1", x -> x.post(-1, -1), OUTSIDE);
        rich("27: t 11, what 2, part 2", x -> x.chance(0, 11, 2, 2), GONE + OUTSIDE);
        rich("28: seed -1, m 0, what 3", x -> x.year(-1, 0, 3), OUTSIDE);
        rich("28: seed 10000, m 100, what -1", x -> x.year(10000, 100, -1), OUTSIDE);
    }

    /** Where there is none, a wrong call is refused all the same. */
    private static void refusedBeforeNone() {
        Scenes.Scene empty = LanternSteps::new;
        Scenes.changesNothing(due, "13: no way, what 2", empty, x -> x.way(0, 1, 2), OUTSIDE);
        Scenes.changesNothing(due, "17: no way, what 2", empty, x -> x.round(0, 2, 2), OUTSIDE);
        Scenes.changesNothing(due, "17: no way, seven", empty, x -> x.round(0, SEVEN, 0), FULL);
        Scenes.changesNothing(due, "18: nobody, place 12", empty, x -> x.more(12), UNKNOWN);
        Scenes.changesNothing(due, "20: no planks, what 2", empty, x -> x.wax(2), OUTSIDE);
        Scenes.changesNothing(due, "21: nobody, what 2", empty, x -> x.post(2, 0), OUTSIDE);
        Scenes.changesNothing(due, "21: nobody, part 2", empty, x -> x.post(0, 2), OUTSIDE);
        Scenes.changesNothing(due, "22: no planks, place -1", empty, x -> x.by(-1), UNKNOWN);
        Scenes.changesNothing(due, "26: nobody fits, what 2", empty, x -> x.ask(2), OUTSIDE);
        Scenes.changesNothing(due, "28: nobody, what 3", empty, x -> x.year(0, 1, 3), OUTSIDE);
    }

    private static void restoring() {
        Scenes.Scene empty = LanternSteps::new;
        Scenes.changesNothing(due, "30: 2, and nothing was kept", empty, x -> x.restore(2), OUTSIDE);
        Scenes.changesNothing(due, "30: -1, and nothing was kept", empty, x -> x.restore(-1), OUTSIDE);
    }
}
