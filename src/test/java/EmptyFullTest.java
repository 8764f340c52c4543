/** Empty and full: no planks, nobody there, an empty pad, a full one, no sights, eight, an empty set, all planks. */
public final class EmptyFullTest {
    private static final int UNKNOWN = LanternSteps.UNKNOWN;
    private static final int OUTSIDE = LanternSteps.OUTSIDE;
    private static final int STATE = LanternSteps.STATE;
    private static final int FULL = LanternSteps.FULL;
    private static final int NO = LanternSteps.NO;
    private static final int NONE = LanternSteps.NONE;
    private static final long GONE = LanternSteps.GONE;

    private static final Due due = new Due("EmptyFullTest");

    public static void main(String[] args) {
        newObject();
        newObjectOfPlaces();
        newObjectOfWalkers();
        nobodyOnPlanks();
        noPlanks();
        noPlanksAtHome();
        allPlanks();
        emptyPad();
        fullPadOfFog();
        fullPadOfWalks();
        fullPadOfGifts();
        fullPadWithFault();
        faultOfFullPad();
        noSights();
        eightSights();
        emptySet();
        setsOfSixAndSeven();
        threeCarryThree();
        due.end();
    }

    private static void newObject() {
        LanternSteps x = new LanternSteps();
        for (int what = 0; what < 4; what++) {
            due.is("1: told(" + what + ")", x.told(what), 0);
        }
        for (int what = 10; what < 100; what++) {
            due.is("1: told(" + what + ")", x.told(what), OUTSIDE);
        }
        for (int what = 100; what < 244; what++) {
            due.is("1: told(" + what + ")", x.told(what), 0);
        }
        due.is("1: fog was not", x.fog(false), 0);
        due.is("7: nothing to wipe", x.wipe(), 0);
        due.is("24: nothing to forget", x.forget(), 0);
        due.is("16: how many", x.out(-1), 0);
        due.is("16: the first", x.out(0), NONE);
        due.is("19: how many", x.decides(-1), 0);
        due.is("19: the first", x.decides(0), NONE);
        due.is("20: costs", x.wax(0), 0);
        due.is("20: planks", x.wax(1), 0);
        due.is("25: whose", x.whose(), 0);
        for (int what = 0; what < 2; what++) {
            due.is("21: post", x.post(what, 0), NONE);
            due.is("21: what it is", x.post(what, 1), NONE);
            due.is("26: ask", x.ask(what), NONE);
            due.is("30: nothing was kept", x.restore(what), STATE);
        }
        for (int what = 0; what < 3; what++) {
            due.is("28: a year of nobody", x.year(9999, 99, what), 0);
        }
        due.is("12: nothing is done", x.done(), 0);
    }

    private static void newObjectOfPlaces() {
        LanternSteps x = new LanternSteps();
        for (int place = 0; place < 12; place++) {
            due.is("11: who", x.who(place), 0);
            due.is("18: more", x.more(place), 0);
            due.is("22: by", x.by(place), 0);
            due.is("17: by none and back", x.round(place, 0, 0), 0);
            due.is("17: no first", x.round(place, 0, 1), NONE);
        }
        for (int from = 0; from < 12; from++) {
            for (int to = 0; to < 12; to++) {
                due.is("13: way", x.way(from, to, 0), from == to ? 0 : NONE);
                due.is("13: first", x.way(from, to, 1), NONE);
            }
        }
    }

    private static void newObjectOfWalkers() {
        LanternSteps x = new LanternSteps();
        for (int walker = 0; walker < 6; walker++) {
            due.is("4: leave", x.leave(walker), UNKNOWN);
            due.is("14: far", x.far(walker), UNKNOWN);
            due.is("15: left", x.left(walker), UNKNOWN);
            for (int what = 0; what < 4; what++) {
                due.is("10: behind", x.behind(walker, what), UNKNOWN);
                due.is("27: chance", x.chance(walker, 5, what / 2, what % 2), GONE - 1);
            }
        }
    }

    /** A ring of four, and a plank apart. */
    private static LanternSteps ring() {
        LanternSteps x = new LanternSteps();
        x.plank(0, 1, 2, false);
        x.plank(1, 2, 3, false);
        x.plank(2, 3, 4, false);
        x.plank(3, 0, 5, true);
        x.plank(10, 11, 1, false);
        return x;
    }

    private static void nobodyOnPlanks() {
        LanternSteps x = ring();
        x.seen(0, 0);
        due.is("25: whose of nobody", x.whose(), 0);
        due.is("26: ask of nobody", x.ask(0), NONE);
        due.is("26: how many of nobody", x.ask(1), NONE);
        due.is("16: how many out", x.out(-1), 0);
        due.is("16: the first out", x.out(0), NONE);
        due.is("21: post of nobody", x.post(0, 0), NONE);
        due.is("21: costs of nobody", x.post(0, 1), NONE);
        due.is("21: dearest of nobody", x.post(1, 0), NONE);
        due.is("21: which is", x.post(1, 1), NONE);
        for (int place = 0; place < 12; place++) {
            due.is("18: more of nobody", x.more(place), 0);
            due.is("11: who of nobody", x.who(place), 0);
        }
        for (int what = 0; what < 3; what++) {
            due.is("28: year of nobody", x.year(1, 99, what), 0);
        }
        x.walker(0, 0, 0, 0);
        x.leave(0);
        due.is("21: nobody any more", x.post(0, 0), NONE);
        due.is("16: how many, any more", x.out(-1), 0);
        due.is("25: whose, any more", x.whose(), 0);
        due.is("18: more, any more", x.more(0), 0);
    }

    private static void noPlanks() {
        LanternSteps x = new LanternSteps();
        for (int walker = 0; walker < 6; walker++) {
            x.walker(walker, walker, walker + 1, 999);
        }
        for (int walker = 0; walker < 6; walker++) {
            due.is("14: only where he is", x.far(walker), 1 << walker);
            due.is("15: no way", x.left(walker), NONE);
            due.is("16: all without a way: the least first", x.out(walker), walker);
            due.is("18: he has no way", x.more(walker), NONE);
            due.is("27: no way", x.chance(walker, 0, 0, 0), GONE - 3);
        }
        due.is("18: nobody is there", x.more(6), 0);
        due.is("21: from no place", x.post(0, 0), NONE);
        due.is("21: from no place, the costs", x.post(0, 1), NONE);
        due.is("21: from no place, the dearest", x.post(1, 0), NONE);
        due.is("21: from no place, which is", x.post(1, 1), NONE);
        due.is("28: nothing is walked", x.year(5, 99, 2), 0);
        due.is("28: for nothing", x.year(5, 99, 0), 0);
        due.is("28: nobody is at home", x.year(5, 99, 1), 0);
        due.is("25: all, by no sight", x.whose(), 63);
        due.is("26: at a: one is there, five can not come", x.ask(1), 5);
        due.is("26: a is the least", x.ask(0), 0);
        Due.say(x, "AaAb");
        due.is("9: no plank to where one is", x.judge(0), 0);
        due.is("9: why", x.judge(1), 5);
        due.is("20: no wax", x.wax(0), 0);
    }

    private static void noPlanksAtHome() {
        LanternSteps x = new LanternSteps();
        for (int walker = 0; walker < 6; walker++) {
            x.walker(walker, 11, 11, 0);
        }
        for (int walker = 0; walker < 6; walker++) {
            due.is("15: at home", x.left(walker), 10000);
            due.is("16: the least first", x.out(walker), walker);
            for (int t = 0; t <= 10; t += 5) {
                due.is("27: it does, upper", x.chance(walker, t, 0, 0), 1);
                due.is("27: it does, lower", x.chance(walker, t, 0, 1), 1);
                due.is("27: for nothing, upper", x.chance(walker, t, 1, 0), 0);
                due.is("27: for nothing, lower", x.chance(walker, t, 1, 1), 1);
            }
        }
        due.is("18: all are at home", x.more(11), 0);
        due.is("21: their home", x.post(0, 0), 11);
        due.is("21: for nothing", x.post(0, 1), 0);
        due.is("21: the dearest", x.post(1, 0), 11);
        due.is("21: for nothing", x.post(1, 1), 0);
        due.is("28: all six are at home", x.year(77, 99, 1), 6);
        due.is("11: all six", x.who(11), 63);
    }

    private static void allPlanks() {
        LanternSteps x = new LanternSteps();
        for (int place = 0; place < 12; place++) {
            for (int other = place + 1; other < 12; other++) {
                x.plank(place, other, 99, true);
            }
        }
        due.is("19: none decides", x.decides(-1), 0);
        due.is("19: no first", x.decides(0), NONE);
        due.is("20: eleven", x.wax(1), 11);
        due.is("20: costs", x.wax(0), 11 * 198);
        due.is("22: none goes by", x.by(6), 0);
        x.walker(5, 0, 11, 198);
        due.is("14: everywhere", x.far(5), 4095);
        x.walker(5, 0, 11, 197);
        due.is("14: nowhere", x.far(5), 1);
        due.is("17: six", x.round(11, 63, 0), 7 * 198);
        due.is("17: the first", x.round(11, 63, 1), 0);
        for (int place = 0; place < 12; place++) {
            due.is("13: at once", x.way(11 - place, place, 1), place);
        }
    }

    private static void emptyPad() {
        LanternSteps x = ring();
        x.walker(0, 1, 3, 50);
        due.is("8: no fault", x.fault(), NONE);
        due.is("9: no act", x.judge(0), NONE);
        due.is("9: no reason", x.judge(1), NONE);
        due.is("9: no costs", x.judge(2), 0);
        due.is("10: where he is", x.behind(0, 0), 1);
        due.is("10: his light", x.behind(0, 1), 50);
        due.is("10: nobody", x.behind(0, 2), NONE);
        due.is("10: by nobody", x.behind(0, 3), NONE);
        due.is("11: who", x.who(1), 1);
        due.is("12: no acts", x.done(), 0);
        due.is("31: as before", x.told(10), 1);
        due.is("7: nothing to wipe", x.wipe(), 0);
        due.is("6: the first sign", x.say('A'), 1);
        due.is("8: more must come", x.fault(), 1);
        due.is("7: one to wipe", x.wipe(), 1);
        due.is("8: no fault any more", x.fault(), NONE);
    }

    private static void fullPadOfFog() {
        LanternSteps x = ring();
        for (int i = 1; i <= 60; i++) {
            due.is("6: sign " + i, x.say('~'), i);
        }
        due.is("6: no sign more", x.say('~'), FULL);
        due.is("31: sixty", x.told(0), 60);
        due.is("8: no fault", x.fault(), NONE);
        due.is("9: no act that can not be", x.judge(0), NONE);
        due.is("9: no costs", x.judge(2), 0);
        due.is("12: sixty acts", x.done(), 60);
        due.is("12: fog is not", x.told(2), 0);
        due.is("12: the pad is empty", x.told(0), 0);
        due.is("6: a first sign again", x.say('~'), 1);
        due.is("12: one act", x.done(), 1);
        due.is("12: fog is", x.told(2), 1);
    }

    private static void fullPadOfWalks() {
        LanternSteps x = ring();
        x.walker(5, 0, 0, 60);
        Due.say(x, "FbFa".repeat(15));
        due.is("8: no fault", x.fault(), NONE);
        due.is("9: no act that can not be", x.judge(0), NONE);
        due.is("9: sixty", x.judge(2), 60);
        due.is("10: no light is left", x.behind(5, 1), 0);
        x.walker(5, 0, 0, 59);
        due.is("9: the last act can not be", x.judge(0), 29);
        due.is("9: for want of light", x.judge(1), 6);
        due.is("12: nor done", x.done(), STATE);
        x.walker(5, 0, 0, 61);
        due.is("12: thirty acts", x.done(), 30);
        due.is("12: one is left", x.told(62), 1);
    }

    private static void fullPadOfGifts() {
        LanternSteps x = new LanternSteps();
        x.walker(0, 4, 4, 201);
        x.walker(5, 4, 4, 0);
        Due.say(x, "A1F".repeat(20));
        due.is("8: no fault", x.fault(), NONE);
        due.is("9: no act that can not be", x.judge(0), NONE);
        due.is("9: giving costs nothing", x.judge(2), 0);
        due.is("10: given", x.behind(5, 1), 200);
        due.is("10: left", x.behind(0, 1), 1);
        due.is("12: twenty acts", x.done(), 20);
        due.is("12: given", x.told(62), 200);
        due.is("12: left", x.told(12), 1);
    }

    private static void fullPadWithFault() {
        LanternSteps x = ring();
        x.walker(0, 0, 0, 9);
        Due.say(x, "~".repeat(58) + "A+");
        due.is("8: more must come", x.fault(), 60);
        due.is("6: and can not", x.say('A'), FULL);
        due.is("8: more must come still", x.fault(), 60);
        due.is("9: a fault", x.judge(0), NO);
        due.is("10: a fault", x.behind(0, 0), NO);
        due.is("11: a fault", x.who(0), NO);
        due.is("12: a fault", x.done(), NO);
        due.is("12: all stays", x.told(0), 60);
        due.is("7: sixty go", x.wipe(), 60);
        due.is("8: no fault any more", x.fault(), NONE);
        due.is("6: room again", x.say('A'), 1);
    }

    private static void faultOfFullPad() {
        LanternSteps x = new LanternSteps();
        Due.say(x, "~".repeat(59) + "a");
        due.is("8: the last sign", x.fault(), 59);
        Due.sayAnew(x, "!" + "~".repeat(59));
        due.is("8: the first sign", x.fault(), 0);
        Due.sayAnew(x, "~".repeat(59) + "A");
        due.is("8: behind the last sign", x.fault(), 60);
        Due.sayAnew(x, "~".repeat(59));
        due.is("8: none of 59", x.fault(), NONE);
    }

    private static void noSights() {
        LanternSteps x = ring();
        due.is("24: none", x.forget(), 0);
        x.walker(0, 0, 0, 5);
        x.walker(5, 9, 0, 0);
        due.is("25: all who are there", x.whose(), 33);
        due.is("26: how many", x.ask(1), 1);
        due.is("26: where", x.ask(0), 0);
        x.seen(9, 0);
        due.is("25: F", x.whose(), 32);
        due.is("24: one", x.forget(), 1);
        due.is("25: all again", x.whose(), 33);
        due.is("24: none again", x.forget(), 0);
    }

    /** The eighth counts as the first does; a ninth does not. */
    private static void eightSights() {
        LanternSteps x = ring();
        x.walker(0, 0, 0, 50);
        x.walker(1, 1, 0, 47);
        x.walker(2, 2, 0, 45);
        for (int i = 1; i < 8; i++) {
            due.is("23: sight " + i, x.seen(2, 45), i);
        }
        due.is("25: A, C", x.whose(), 5);
        due.is("23: the eighth", x.seen(0, 50), 8);
        due.is("25: A by the eighth", x.whose(), 1);
        due.is("23: no ninth", x.seen(0, 0), FULL);
        due.is("25: A still", x.whose(), 1);
        due.is("31: eight", x.told(3), 8);
        due.is("29: kept", x.image(1), 1);
        due.is("24: eight go", x.forget(), 8);
        due.is("23: a first again", x.seen(0, 45), 1);
        due.is("30: restored", x.restore(1), 1);
        due.is("30: eight", x.told(3), 8);
        due.is("30: A", x.whose(), 1);
        due.is("30: no ninth", x.seen(0, 0), FULL);
        due.is("24: eight go again", x.forget(), 8);
        due.is("25: all", x.whose(), 7);
        eightOfNobody();
    }

    private static void eightOfNobody() {
        LanternSteps x = ring();
        x.walker(0, 0, 0, 50);
        x.seen(0, 49);
        for (int i = 2; i <= 8; i++) {
            due.is("23: sight " + i, x.seen(0, 50), i);
        }
        due.is("25: not by the first of eight", x.whose(), 0);
        due.is("26: nobody fits", x.ask(0), NONE);
        due.is("26: nobody fits", x.ask(1), NONE);
    }

    private static void emptySet() {
        LanternSteps x = ring();
        x.fog(true);
        for (int place = 0; place < 12; place++) {
            due.is("17: no costs", x.round(place, 0, 0), 0);
            due.is("17: no first", x.round(place, 0, 1), NONE);
            due.is("17: where one is", x.round(place, 1 << place, 0), 0);
            due.is("17: is first", x.round(place, 1 << place, 1), place);
        }
    }

    private static void setsOfSixAndSeven() {
        LanternSteps x = new LanternSteps();
        for (int place = 0; place < 11; place++) {
            x.plank(place, 11, place + 1, false);
        }
        int six = 1 << 1 | 1 << 3 | 1 << 5 | 1 << 7 | 1 << 9 | 1 << 10;
        due.is("17: six", x.round(11, six, 0), 2 * (2 + 4 + 6 + 8 + 10 + 11));
        due.is("17: the first of six", x.round(11, six, 1), 1);
        due.is("17: from one of them", x.round(10, six, 0), 2 * (2 + 4 + 6 + 8 + 10 + 11));
        due.is("17: b is first, k the last", x.round(10, six, 1), 1);
        due.is("17: seven", x.round(11, six | 1, 0), FULL);
        due.is("17: the first of seven", x.round(11, six | 1, 1), FULL);
        due.is("17: seven with the place itself", x.round(11, six | 1 << 11, 0), FULL);
        due.is("17: six with the place itself", x.round(11, six & ~2 | 1 << 11, 0), 2 * (4 + 6 + 8 + 10 + 11));
        x.plank(10, 11, 0, false);
        due.is("17: six, one apart", x.round(11, six, 0), NONE);
        due.is("17: no first", x.round(11, six, 1), NONE);
        due.is("17: seven, one apart", x.round(11, six | 1, 0), FULL);
    }

    /** All six are there, and no more can be carried. */
    private static void threeCarryThree() {
        LanternSteps x = new LanternSteps();
        for (int walker = 0; walker < 6; walker++) {
            x.walker(walker, 0, 0, 999);
        }
        Due.say(x, "A+BC+DE+F");
        due.is("12: three carry three", x.done(), 3);
        int[] carries = {1, NONE, 3, NONE, 5, NONE};
        int[] bearers = {NONE, 0, NONE, 2, NONE, 4};
        for (int walker = 0; walker < 6; walker++) {
            due.is("31: whom", x.told(10 * (1 + walker) + 3), carries[walker]);
            due.is("10: whom", x.behind(walker, 2), carries[walker]);
            due.is("10: who", x.behind(walker, 3), bearers[walker]);
        }
    }
}
