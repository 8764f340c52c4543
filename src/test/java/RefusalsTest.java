/** Each refusal of each call, for one reason, at the first numbers that are not taken; and that it changes nothing. */
public final class RefusalsTest {
    private static final int UNKNOWN = LanternSteps.UNKNOWN;
    private static final int OUTSIDE = LanternSteps.OUTSIDE;
    private static final int STATE = LanternSteps.STATE;
    private static final int FULL = LanternSteps.FULL;
    private static final int NO = LanternSteps.NO;
    private static final long GONE = LanternSteps.GONE;

    private static final int LEAST = Integer.MIN_VALUE;
    private static final int MOST = Integer.MAX_VALUE;
    private static final int[] NO_PLACES = {-1, 12, LEAST, MOST};
    private static final int[] NO_WALKERS = {-1, 6, LEAST, MOST};
    private static final int[] ABSENT = {-1, 6, 3, LEAST, MOST};
    private static final int[] NO_LIGHTS = {-1, 1000, LEAST, MOST};
    private static final int[] NOT_0_TO_1 = {-1, 2, LEAST, MOST};
    private static final int[] NOT_0_TO_2 = {-1, 3, LEAST, MOST};
    private static final int[] NOT_0_TO_3 = {-1, 4, LEAST, MOST};

    private static final Due due = new Due("RefusalsTest");

    public static void main(String[] args) {
        planks();
        walkers();
        leaving();
        signs();
        judging();
        behind();
        whoIsThere();
        done();
        ways();
        farAndLeft();
        rounds();
        moreAndBy();
        waxAndPost();
        sights();
        asking();
        chances();
        chancesInState();
        years();
        images();
        told();
        due.end();
    }

    private static void rich(String text, Scenes.Call call, long want) {
        Scenes.changesNothing(due, text, Scenes::rich, call, want);
    }

    private static void planks() {
        for (int place : NO_PLACES) {
            rich("2: plank, place " + place, x -> x.plank(place, 1, 5, false), UNKNOWN);
            rich("2: plank, other " + place, x -> x.plank(1, place, 5, true), UNKNOWN);
            rich("2: plank, none, place " + place, x -> x.plank(place, 1, 0, false), UNKNOWN);
        }
        for (int place = 0; place < 12; place++) {
            int one = place;
            rich("2: plank, both are " + place, x -> x.plank(one, one, 5, false), UNKNOWN);
        }
        rich("2: plank, both are one, none", x -> x.plank(0, 0, 0, false), UNKNOWN);
        rich("2: plank, both are unknown", x -> x.plank(12, 12, 5, false), UNKNOWN);
        for (int steps : new int[] {-1, 100, LEAST, MOST}) {
            rich("2: plank, where one is, " + steps, x -> x.plank(0, 1, steps, true), OUTSIDE);
            rich("2: plank, where none is, " + steps, x -> x.plank(4, 11, steps, false), OUTSIDE);
        }
    }

    private static void walkers() {
        for (int walker : NO_WALKERS) {
            rich("3: walker " + walker, x -> x.walker(walker, 1, 1, 1), UNKNOWN);
        }
        for (int place : NO_PLACES) {
            rich("3: walker, place " + place, x -> x.walker(0, place, 1, 1), UNKNOWN);
            rich("3: walker, home " + place, x -> x.walker(2, 1, place, 1), UNKNOWN);
            rich("3: walker, who is not there, place " + place, x -> x.walker(3, place, 1, 1), UNKNOWN);
            rich("3: walker, who is not there, home " + place, x -> x.walker(3, 1, place, 1), UNKNOWN);
        }
        for (int light : NO_LIGHTS) {
            rich("3: walker, who is not there, light " + light, x -> x.walker(3, 1, 1, light), OUTSIDE);
            rich("3: walker, who carries, light " + light, x -> x.walker(2, 1, 1, light), OUTSIDE);
            rich("3: walker, who is carried, light " + light, x -> x.walker(4, 1, 1, light), OUTSIDE);
        }
    }

    private static void leaving() {
        for (int walker : ABSENT) {
            rich("4: leave " + walker, x -> x.leave(walker), UNKNOWN);
        }
    }

    private static void signs() {
        for (int sign : new int[] {32, 127, 0, -1, 'A' + 256, 'A' + 65536, LEAST, MOST}) {
            rich("6: say " + sign, x -> x.say(sign), OUTSIDE);
        }
        for (int sign : new int[] {33, 'A', 'a', '~'}) {
            Scenes.changesNothing(due, "6: a full pad, " + sign, Scenes::withFullPad, x -> x.say(sign), FULL);
            Scenes.changesNothing(due, "6: a full pad with a fault, " + sign, Scenes::withFullPadAndFault,
                x -> x.say(sign), FULL);
        }
    }

    private static void judging() {
        for (int what : NOT_0_TO_2) {
            rich("9: judge " + what, x -> x.judge(what), OUTSIDE);
        }
        for (int what = 0; what < 3; what++) {
            int asked = what;
            Scenes.changesNothing(due, "9: a fault, " + what, Scenes::faulty, x -> x.judge(asked), NO);
        }
        Scenes.changesNothing(due, "9: an act that can not be", Scenes::barred, x -> x.judge(2), STATE);
    }

    private static void behind() {
        for (int walker : ABSENT) {
            rich("10: behind, walker " + walker, x -> x.behind(walker, 0), UNKNOWN);
        }
        for (int what : NOT_0_TO_3) {
            rich("10: behind, what " + what, x -> x.behind(0, what), OUTSIDE);
        }
        for (int what = 0; what < 4; what++) {
            int asked = what;
            Scenes.changesNothing(due, "10: a fault, " + what, Scenes::faulty, x -> x.behind(0, asked), NO);
            Scenes.changesNothing(due, "10: it can not be, " + what, Scenes::barred, x -> x.behind(5, asked), STATE);
        }
    }

    private static void whoIsThere() {
        for (int place : NO_PLACES) {
            rich("11: who, place " + place, x -> x.who(place), UNKNOWN);
        }
        for (int place : new int[] {0, 4, 11}) {
            Scenes.changesNothing(due, "11: a fault, " + place, Scenes::faulty, x -> x.who(place), NO);
            Scenes.changesNothing(due, "11: it can not be, " + place, Scenes::barred, x -> x.who(place), STATE);
        }
    }

    private static void done() {
        Scenes.changesNothing(due, "12: a fault", Scenes::faulty, LanternSteps::done, NO);
        Scenes.changesNothing(due, "12: a fault on a full pad", Scenes::withFullPadAndFault, LanternSteps::done, NO);
        Scenes.changesNothing(due, "12: it can not be", Scenes::barred, LanternSteps::done, STATE);
    }

    private static void ways() {
        for (int place : NO_PLACES) {
            rich("13: way, from " + place, x -> x.way(place, 1, 0), UNKNOWN);
            rich("13: way, to " + place, x -> x.way(1, place, 1), UNKNOWN);
            rich("13: way, both " + place, x -> x.way(place, place, 0), UNKNOWN);
        }
        for (int what : NOT_0_TO_1) {
            rich("13: way, what " + what, x -> x.way(0, 1, what), OUTSIDE);
            rich("13: way, where one is, what " + what, x -> x.way(1, 1, what), OUTSIDE);
        }
    }

    private static void farAndLeft() {
        for (int walker : ABSENT) {
            rich("14: far " + walker, x -> x.far(walker), UNKNOWN);
            rich("15: left " + walker, x -> x.left(walker), UNKNOWN);
        }
    }

    private static void rounds() {
        for (int place : NO_PLACES) {
            rich("17: round, place " + place, x -> x.round(place, 1, 0), UNKNOWN);
            rich("17: round, no stop, place " + place, x -> x.round(place, 0, 1), UNKNOWN);
        }
        for (int set : new int[] {-1, 4096, 4097, 8192, LEAST, MOST}) {
            rich("17: round, set " + set, x -> x.round(0, set, 0), UNKNOWN);
        }
        for (int what : NOT_0_TO_1) {
            rich("17: round, what " + what, x -> x.round(0, 6, what), OUTSIDE);
            rich("17: round, no stop, what " + what, x -> x.round(0, 0, what), OUTSIDE);
        }
        for (int set : new int[] {127, 4064, 4095}) {
            rich("17: round, more than six, " + set, x -> x.round(0, set, 0), FULL);
            rich("17: round, the first of more than six, " + set, x -> x.round(11, set, 1), FULL);
        }
    }

    private static void moreAndBy() {
        for (int place : NO_PLACES) {
            rich("18: more " + place, x -> x.more(place), UNKNOWN);
            rich("22: by " + place, x -> x.by(place), UNKNOWN);
        }
    }

    private static void waxAndPost() {
        for (int what : NOT_0_TO_1) {
            rich("20: wax " + what, x -> x.wax(what), OUTSIDE);
            rich("21: post, what " + what, x -> x.post(what, 0), OUTSIDE);
            rich("21: post, part " + what, x -> x.post(1, what), OUTSIDE);
        }
    }

    private static void sights() {
        for (int place : NO_PLACES) {
            rich("23: seen, place " + place, x -> x.seen(place, 93), UNKNOWN);
        }
        for (int light : NO_LIGHTS) {
            rich("23: seen, light " + light, x -> x.seen(1, light), OUTSIDE);
        }
        Scenes.changesNothing(due, "23: a ninth sight", Scenes::withEightSights, x -> x.seen(2, 0), FULL);
        Scenes.changesNothing(due, "23: a ninth like the others", Scenes::withEightSights, x -> x.seen(1, 93), FULL);
    }

    private static void asking() {
        for (int what : NOT_0_TO_1) {
            rich("26: ask " + what, x -> x.ask(what), OUTSIDE);
        }
    }

    private static void chances() {
        for (int walker : ABSENT) {
            rich("27: chance, walker " + walker, x -> x.chance(walker, 5, 0, 0), GONE - 1);
        }
        for (int t : new int[] {-1, 11, LEAST, MOST}) {
            rich("27: chance, t " + t, x -> x.chance(0, t, 0, 0), GONE - 2);
            rich("27: chance, mean, t " + t, x -> x.chance(0, t, 1, 1), GONE - 2);
        }
        for (int wrong : NOT_0_TO_1) {
            rich("27: chance, what " + wrong, x -> x.chance(0, 5, wrong, 0), GONE - 2);
            rich("27: chance, part " + wrong, x -> x.chance(0, 5, 0, wrong), GONE - 2);
        }
    }

    private static void chancesInState() {
        for (int what = 0; what < 2; what++) {
            for (int part = 0; part < 2; part++) {
                int asked = what;
                int told = part;
                String text = "27: chance " + what + ", " + part;
                rich(text + ", no way", x -> x.chance(4, 5, asked, told), GONE - 3);
                Scenes.changesNothing(due, text + ", fog", Scenes::foggy, x -> x.chance(0, 5, asked, told), GONE - 3);
                Scenes.changesNothing(due, text + ", fog, at home", Scenes::foggy,
                    x -> x.chance(5, 5, asked, told), GONE - 3);
            }
        }
    }

    private static void years() {
        for (int seed : new int[] {-1, 10000, LEAST, MOST}) {
            rich("28: year, seed " + seed, x -> x.year(seed, 9, 0), OUTSIDE);
        }
        for (int m : new int[] {0, 100, -1, LEAST, MOST}) {
            rich("28: year, m " + m, x -> x.year(7, m, 1), OUTSIDE);
        }
        for (int what : NOT_0_TO_2) {
            rich("28: year, what " + what, x -> x.year(7, 9, what), OUTSIDE);
        }
    }

    private static void images() {
        for (int k : NOT_0_TO_1) {
            rich("29: image " + k, x -> x.image(k), OUTSIDE);
            rich("30: restore " + k, x -> x.restore(k), OUTSIDE);
        }
        rich("30: restore what was not kept", x -> x.restore(1), STATE);
    }

    /** D is not there; behind each walker's four numbers six are free; behind 63 and behind 243 there is nothing. */
    private static void told() {
        int[] outside = {-1, 4, 5, 9, 14, 19, 24, 29, 34, 39, 40, 41, 42, 43, 44, 49, 54, 59, 64, 69, 70, 71, 72, 73, 79,
            99, 244, 245, 1000, LEAST, MOST};
        for (int what : outside) {
            rich("31: told " + what, x -> x.told(what), OUTSIDE);
        }
    }
}
