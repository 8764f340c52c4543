/** Promises 1 to 8: the new object, plank, walker, leave, fog, say, wipe, fault. */
public final class PlanksWalkersTest {
    private static final Due due = new Due("PlanksWalkersTest");

    public static void main(String[] args) {
        newObject();
        planks();
        planksRefused();
        walkers();
        walkersRefused();
        walkersPart();
        leaving();
        fog();
        signs();
        faults();
        due.end();
    }

    private static void newObject() {
        LanternSteps x = new LanternSteps();
        for (int what = 0; what < 4; what++) {
            due.is("1: told(" + what + ")", x.told(what), 0);
        }
        for (int what = 100; what < 244; what++) {
            due.is("1: told(" + what + ")", x.told(what), 0);
        }
        for (int walker = 0; walker < 6; walker++) {
            due.is("1: far(" + walker + ")", x.far(walker), LanternSteps.UNKNOWN);
        }
        due.is("1: fault()", x.fault(), LanternSteps.NONE);
        due.is("1: out(-1)", x.out(-1), 0);
        due.is("1: restore(0)", x.restore(0), LanternSteps.STATE);
        due.is("1: restore(1)", x.restore(1), LanternSteps.STATE);
    }

    private static void planks() {
        LanternSteps x = new LanternSteps();
        due.is("2: none before", x.plank(3, 11, 99, true), 0);
        due.is("2: 99 before", x.plank(11, 3, 1, false), 99);
        due.is("2: told there", x.told(100 + 12 * 3 + 11), 2);
        due.is("2: told back", x.told(100 + 12 * 11 + 3), 2);
        due.is("2: wet now", x.plank(3, 11, 7, true), 1);
        due.is("2: told wet", x.told(100 + 12 * 3 + 11), 15);
        due.is("2: told wet back", x.told(100 + 12 * 11 + 3), 15);
        due.is("2: its cost", x.way(3, 11, 0), 14);
        due.is("2: gone, wet or not", x.plank(3, 11, 0, true), 7);
        due.is("2: told none", x.told(100 + 12 * 3 + 11), 0);
        due.is("2: told none back", x.told(100 + 12 * 11 + 3), 0);
        due.is("2: no way", x.way(3, 11, 0), LanternSteps.NONE);
        due.is("2: gone again", x.plank(11, 3, 0, false), 0);
    }

    private static void planksRefused() {
        LanternSteps x = new LanternSteps();
        x.plank(0, 1, 5, false);
        due.is("2: place -1", x.plank(-1, 1, 5, false), LanternSteps.UNKNOWN);
        due.is("2: place 12", x.plank(12, 1, 5, false), LanternSteps.UNKNOWN);
        due.is("2: other -1", x.plank(0, -1, 5, false), LanternSteps.UNKNOWN);
        due.is("2: other 12", x.plank(0, 12, 5, false), LanternSteps.UNKNOWN);
        due.is("2: both are one", x.plank(4, 4, 5, false), LanternSteps.UNKNOWN);
        due.is("2: unknown comes first", x.plank(0, 12, 100, false), LanternSteps.UNKNOWN);
        due.is("2: one comes first", x.plank(0, 0, 100, false), LanternSteps.UNKNOWN);
        due.is("2: 100 steps", x.plank(0, 1, 100, false), LanternSteps.OUTSIDE);
        due.is("2: -1 steps", x.plank(0, 1, -1, false), LanternSteps.OUTSIDE);
        due.is("2: nothing changed", x.told(101), 10);
    }

    private static void walkers() {
        LanternSteps x = new LanternSteps();
        due.is("3: first", x.walker(5, 11, 0, 999), 1);
        due.is("3: second", x.walker(0, 0, 11, 0), 2);
        due.is("3: anew", x.walker(5, 10, 9, 8), 2);
        due.is("3: who is there", x.told(1), 33);
        due.is("3: where", x.told(60), 10);
        due.is("3: home", x.told(61), 9);
        due.is("3: light", x.told(62), 8);
        due.is("3: carries", x.told(63), LanternSteps.NONE);
        due.is("3: where A", x.told(10), 0);
        due.is("3: home A", x.told(11), 11);
        due.is("3: light A", x.told(12), 0);
        for (int walker = 1; walker < 5; walker++) {
            due.is("3: one more", x.walker(walker, 1, 1, 1), walker + 2);
        }
    }

    private static void walkersRefused() {
        LanternSteps x = new LanternSteps();
        x.walker(2, 3, 4, 5);
        due.is("3: number -1", x.walker(-1, 0, 0, 0), LanternSteps.UNKNOWN);
        due.is("3: number 6", x.walker(6, 0, 0, 0), LanternSteps.UNKNOWN);
        due.is("3: place -1", x.walker(2, -1, 0, 0), LanternSteps.UNKNOWN);
        due.is("3: place 12", x.walker(2, 12, 0, 0), LanternSteps.UNKNOWN);
        due.is("3: home -1", x.walker(2, 0, -1, 0), LanternSteps.UNKNOWN);
        due.is("3: home 12", x.walker(2, 0, 12, 0), LanternSteps.UNKNOWN);
        due.is("3: unknown comes first", x.walker(2, 0, 12, 1000), LanternSteps.UNKNOWN);
        due.is("3: light -1", x.walker(2, 0, 0, -1), LanternSteps.OUTSIDE);
        due.is("3: light 1000", x.walker(2, 0, 0, 1000), LanternSteps.OUTSIDE);
        due.is("3: as before", x.told(30), 3);
        due.is("3: home as before", x.told(31), 4);
        due.is("3: light as before", x.told(32), 5);
        due.is("3: nobody more", x.told(1), 4);
    }

    private static LanternSteps carrying() {
        LanternSteps x = new LanternSteps();
        x.walker(0, 2, 0, 9);
        x.walker(1, 2, 0, 9);
        x.walker(2, 2, 0, 9);
        Due.say(x, "A+B");
        due.is("3: taken up", x.done(), 1);
        due.is("3: carries B", x.told(13), 1);
        return x;
    }

    private static void walkersPart() {
        LanternSteps x = carrying();
        x.walker(1, 2, 0, 9);
        due.is("3: who carried him does not", x.told(13), LanternSteps.NONE);
        due.is("3: he is not carried", x.behind(1, 3), LanternSteps.NONE);
        x = carrying();
        x.walker(0, 2, 0, 9);
        due.is("3: he carries nobody", x.told(13), LanternSteps.NONE);
        due.is("3: whom he carried is free", x.behind(1, 3), LanternSteps.NONE);
        x = carrying();
        x.walker(2, 1, 1, 1);
        x.walker(0, 2, 0, 1000);
        x.walker(1, 12, 0, 0);
        due.is("3: others and refused ones change nothing", x.told(13), 1);
        Due.say(x, "A-B+A");
        x.done();
        x.walker(5, 3, 3, 3);
        due.is("3: nor does one who is there for the first time", x.behind(0, 3), 1);
        due.is("3: who carries nobody", x.told(63), LanternSteps.NONE);
    }

    private static void leaving() {
        LanternSteps x = carrying();
        due.is("4: never was", x.leave(4), LanternSteps.UNKNOWN);
        due.is("4: number -1", x.leave(-1), LanternSteps.UNKNOWN);
        due.is("4: number 6", x.leave(6), LanternSteps.UNKNOWN);
        due.is("4: still all", x.told(1), 7);
        due.is("4: the carried one leaves", x.leave(1), 2);
        due.is("4: who is there", x.told(1), 5);
        due.is("4: carries nobody", x.told(13), LanternSteps.NONE);
        due.is("4: gone already", x.leave(1), LanternSteps.UNKNOWN);
        due.is("4: no such walker", x.left(1), LanternSteps.UNKNOWN);
        x = carrying();
        due.is("4: the bearer leaves", x.leave(0), 2);
        due.is("4: is not carried", x.behind(1, 3), LanternSteps.NONE);
        due.is("4: he stays where he was", x.told(20), 2);
        due.is("4: one", x.leave(1), 1);
        due.is("4: nobody", x.leave(2), 0);
    }

    private static void fog() {
        LanternSteps x = new LanternSteps();
        x.plank(0, 1, 3, false);
        x.plank(1, 2, 3, true);
        due.is("5: dry", x.way(0, 1, 0), 3);
        due.is("5: wet", x.way(1, 2, 0), 6);
        due.is("5: was not", x.fog(true), 0);
        due.is("5: told", x.told(2), 1);
        due.is("5: dry in fog", x.way(0, 1, 0), 6);
        due.is("5: wet in fog", x.way(1, 2, 0), 12);
        due.is("5: was", x.fog(true), 1);
        due.is("5: still", x.told(2), 1);
        due.is("5: was, again", x.fog(false), 1);
        due.is("5: was not, again", x.fog(false), 0);
        due.is("5: dry again", x.way(0, 2, 0), 9);
    }

    private static void signs() {
        LanternSteps x = new LanternSteps();
        due.is("6: 32", x.say(32), LanternSteps.OUTSIDE);
        due.is("6: 127", x.say(127), LanternSteps.OUTSIDE);
        due.is("6: -1", x.say(-1), LanternSteps.OUTSIDE);
        due.is("6: 33", x.say(33), 1);
        due.is("6: 126", x.say(126), 2);
        for (int i = 3; i <= 60; i++) {
            due.is("6: sign " + i, x.say('A'), i);
        }
        due.is("6: full", x.say('A'), LanternSteps.FULL);
        due.is("6: outside comes first", x.say(200), LanternSteps.OUTSIDE);
        due.is("6: told", x.told(0), 60);
        due.is("7: wipe", x.wipe(), 60);
        due.is("7: told", x.told(0), 0);
        due.is("7: wipe again", x.wipe(), 0);
        due.is("7: no fault is left", x.fault(), LanternSteps.NONE);
        due.is("6: from the start", x.say('~'), 1);
    }

    private static void fault(String text, int want) {
        LanternSteps x = new LanternSteps();
        Due.say(x, text);
        due.is("8: fault of " + text, x.fault(), want);
    }

    private static void faults() {
        fault("", LanternSteps.NONE);
        fault("~", LanternSteps.NONE);
        fault("Aa", LanternSteps.NONE);
        fault("Fl", LanternSteps.NONE);
        fault("A-", LanternSteps.NONE);
        fault("A+F", LanternSteps.NONE);
        fault("F1A", LanternSteps.NONE);
        fault("A9A", LanternSteps.NONE);
        fault("Aa~B-C+D~~E5FFl", LanternSteps.NONE);
        fault("A", 1);
        fault("A+", 2);
        fault("A9", 2);
        fault("AaB", 3);
        fault("~~A5", 4);
        fault("a", 0);
        fault("G", 0);
        fault("@", 0);
        fault("+", 0);
        fault("-", 0);
        fault("1", 0);
        fault("Am", 1);
        fault("A`", 1);
        fault("AA", 1);
        fault("A~", 1);
        fault("A0B", 1);
        fault("A:B", 1);
        fault("A+a", 2);
        fault("A+G", 2);
        fault("A1-", 2);
        fault("A+~", 2);
        fault("A11", 2);
        fault("AaBbx", 4);
        fault("A-B", 3);
        fault("A--", 2);
        fault("x~y", 0);
        LanternSteps x = new LanternSteps();
        Due.say(x, "~~~~~~~~~~~~~~~~~~~~~~~~~~~~~~~~~~~~~~~~~~~~~~~~~~~~~~~~~~~A");
        due.is("8: more must come on a full pad", x.fault(), 60);
        due.is("8: and none can", x.say('a'), LanternSteps.FULL);
    }
}
