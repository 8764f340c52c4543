/** Promises 9 to 16: judge, behind, who, done, way, far, left, out. */
public final class EveningsWaysTest {
    private static final Due due = new Due("EveningsWaysTest");

    public static void main(String[] args) {
        reasonsOfWalking();
        reasonsOfTakingUp();
        reasonsOfSettingDown();
        reasonsOfGiving();
        judgeFirst();
        judgeRefused();
        behind();
        behindRefused();
        who();
        done();
        doneRefused();
        ways();
        waysRefused();
        far();
        left();
        out();
        due.end();
    }

    /** a-b 7, b-c 10 wet, a-c 30, c-d 5; A at a with 100, B at b with 12, C at a with 999, D at a with 0. */
    private static LanternSteps marsh() {
        LanternSteps x = new LanternSteps();
        x.plank(0, 1, 7, false);
        x.plank(1, 2, 10, true);
        x.plank(0, 2, 30, false);
        x.plank(2, 3, 5, false);
        x.walker(0, 0, 3, 100);
        x.walker(1, 1, 0, 12);
        x.walker(2, 0, 0, 999);
        x.walker(3, 0, 1, 0);
        return x;
    }

    private static void why(String text, int act, int reason) {
        LanternSteps x = marsh();
        Due.say(x, text);
        due.is("9: act of " + text, x.judge(0), act);
        due.is("9: why of " + text, x.judge(1), reason);
        due.is("9: costs of " + text, x.judge(2), LanternSteps.STATE);
    }

    private static void costs(String text, int costs) {
        LanternSteps x = marsh();
        Due.say(x, text);
        due.is("9: act of " + text, x.judge(0), LanternSteps.NONE);
        due.is("9: why of " + text, x.judge(1), LanternSteps.NONE);
        due.is("9: costs of " + text, x.judge(2), costs);
    }

    private static void reasonsOfWalking() {
        costs("Ab", 7);
        costs("AbAcAdAc", 37);
        costs("Ac~AdAc", 50);
        costs("~Ab~AcAd", 39);
        costs("~~Ab", 7);
        costs("Ba", 7);
        why("Ea", 0, 1);
        costs("C+ACb", 7);
        why("C+AAb", 1, 3);
        why("Aa", 0, 5);
        why("Ad", 0, 5);
        why("Bc", 0, 6);
        why("Db", 0, 6);
        why("~Ba", 1, 6);
        why("D+AAd", 1, 3);
        why("Dd", 0, 5);
        why("AbAaAbAaAbAaAbAaAbAaAbAaAbAaAb", 14, 6);
    }

    private static void reasonsOfTakingUp() {
        costs("A+C", 0);
        costs("A+CAbA-A+B", 7);
        why("A+E", 0, 1);
        why("E+A", 0, 1);
        why("E+E", 0, 1);
        why("A+A", 0, 2);
        why("A+CA+A", 1, 2);
        why("A+CC+C", 1, 2);
        why("A+CC+D", 1, 3);
        why("A+CD+C", 1, 3);
        why("A+CA+C", 1, 3);
        why("A+CC+A", 1, 3);
        why("A+CB+C", 1, 3);
        why("A+B", 0, 4);
        why("A+CA+B", 1, 4);
        why("A+CA+D", 1, 7);
        why("A+CD+A", 1, 7);
    }

    private static void reasonsOfSettingDown() {
        costs("A+CA-", 0);
        costs("A+CA-C+A", 0);
        why("E-", 0, 1);
        why("A+CC-", 1, 3);
        why("A-", 0, 7);
        why("A+CA-A-", 2, 7);
    }

    private static void reasonsOfGiving() {
        costs("A9C", 0);
        costs("A9CA1C", 0);
        costs("A+CA9D", 0);
        why("A1E", 0, 1);
        why("E1A", 0, 1);
        why("A1A", 0, 2);
        why("D1D", 0, 2);
        why("A+CA1C", 1, 3);
        why("A+CC1D", 1, 3);
        why("A+CB1C", 1, 3);
        why("A1B", 0, 4);
        why("B9A", 0, 4);
        why("D1A", 0, 6);
        why("A9CA1CA1C", 2, 6);
        why("AbB2A", 1, 6);
    }

    private static void judgeFirst() {
        why("AbA-B-", 1, 7);
        why("~~Ea", 2, 1);
        LanternSteps x = marsh();
        due.is("9: nothing said", x.judge(0), LanternSteps.NONE);
        due.is("9: nothing said", x.judge(1), LanternSteps.NONE);
        due.is("9: nothing said", x.judge(2), 0);
        Due.say(x, "Ab");
        due.is("9: costs", x.judge(2), 7);
        due.is("9: nothing is done in fact", x.told(12), 100);
        due.is("9: nor does he walk", x.told(10), 0);
        due.is("9: costs once more", x.judge(2), 7);
        x.walker(0, 0, 3, 7);
        due.is("9: just enough", x.judge(1), LanternSteps.NONE);
        due.is("9: none is left", x.behind(0, 1), 0);
        x.walker(0, 0, 3, 6);
        due.is("9: one too little", x.judge(1), 6);
        due.is("9: the first act", x.judge(0), 0);
        x.walker(0, 0, 3, 100);
        due.is("9: no reason any more", x.judge(1), LanternSteps.NONE);
        due.is("9: nor an act", x.judge(0), LanternSteps.NONE);
        x.fog(true);
        due.is("9: costs in fog", x.judge(2), 14);
        x.plank(0, 1, 50, true);
        due.is("9: too dark now", x.judge(1), 6);
        x.plank(0, 1, 0, false);
        due.is("9: no plank now", x.judge(1), 5);
        x.leave(0);
        due.is("9: nobody now", x.judge(1), 1);
    }

    private static void judgeRefused() {
        LanternSteps x = marsh();
        Due.say(x, "EaA");
        for (int what = 0; what < 3; what++) {
            due.is("9: a fault", x.judge(what), LanternSteps.NO);
        }
        due.is("9: outside comes first", x.judge(3), LanternSteps.OUTSIDE);
        due.is("9: -1", x.judge(-1), LanternSteps.OUTSIDE);
    }

    private static void behind() {
        LanternSteps x = marsh();
        Due.say(x, "A+CAbA9BAc");
        due.is("10: too dark for the last", x.behind(0, 0), LanternSteps.STATE);
        Due.sayAnew(x, "A+CAbA5BAc~");
        due.is("10: where A", x.behind(0, 0), 2);
        due.is("10: where C", x.behind(2, 0), 2);
        due.is("10: where D", x.behind(3, 0), 0);
        due.is("10: light of A", x.behind(0, 1), 100 - 7 - 50 - 20);
        due.is("10: light of B", x.behind(1, 1), 62);
        due.is("10: light of C", x.behind(2, 1), 999);
        due.is("10: whom A", x.behind(0, 2), 2);
        due.is("10: who A", x.behind(0, 3), LanternSteps.NONE);
        due.is("10: whom C", x.behind(2, 2), LanternSteps.NONE);
        due.is("10: who C", x.behind(2, 3), 0);
        Due.sayAnew(x, "D+CC2A");
        due.is("10: a carried one can not give", x.behind(0, 1), LanternSteps.STATE);
        Due.sayAnew(x, "A2C");
        due.is("10: 999 at most", x.behind(2, 1), 999);
        due.is("10: what is above is lost", x.behind(0, 1), 80);
        x.walker(2, 0, 0, 985);
        Due.sayAnew(x, "A1CA1C");
        due.is("10: 995 and 10", x.behind(2, 1), 999);
        Due.sayAnew(x, "A9CA1C");
        due.is("10: all of it", x.behind(0, 1), 0);
        Due.sayAnew(x, "A+CAbA-Ac");
        due.is("10: set down at b", x.behind(2, 0), 1);
        due.is("10: nobody carries him", x.behind(2, 3), LanternSteps.NONE);
        due.is("10: he carries nobody", x.behind(0, 2), LanternSteps.NONE);
    }

    private static void behindRefused() {
        LanternSteps x = marsh();
        Due.say(x, "A");
        due.is("10: nobody", x.behind(4, 9), LanternSteps.UNKNOWN);
        due.is("10: -1", x.behind(-1, 0), LanternSteps.UNKNOWN);
        due.is("10: 6", x.behind(6, 0), LanternSteps.UNKNOWN);
        due.is("10: what 4", x.behind(0, 4), LanternSteps.OUTSIDE);
        due.is("10: what -1", x.behind(0, -1), LanternSteps.OUTSIDE);
        due.is("10: a fault", x.behind(0, 0), LanternSteps.NO);
        x.say('a');
        due.is("10: it can not be", x.behind(0, 0), LanternSteps.STATE);
        x.wipe();
        due.is("10: nothing said", x.behind(0, 1), 100);
    }

    private static void who() {
        LanternSteps x = marsh();
        due.is("11: at a", x.who(0), 13);
        due.is("11: at b", x.who(1), 2);
        due.is("11: at l", x.who(11), 0);
        Due.say(x, "A+CAb");
        due.is("11: at a behind", x.who(0), 8);
        due.is("11: carried too", x.who(1), 7);
        due.is("11: -1", x.who(-1), LanternSteps.UNKNOWN);
        due.is("11: 12", x.who(12), LanternSteps.UNKNOWN);
        x.say('C');
        due.is("11: a fault", x.who(1), LanternSteps.NO);
        due.is("11: unknown comes first", x.who(12), LanternSteps.UNKNOWN);
        x.say('a');
        due.is("11: it can not be", x.who(1), LanternSteps.STATE);
        x.wipe();
        x.leave(3);
        due.is("11: who left is nowhere", x.who(0), 5);
    }

    private static void done() {
        LanternSteps x = marsh();
        due.is("12: nothing said", x.done(), 0);
        Due.say(x, "A+CAbA5B~");
        due.is("12: acts", x.done(), 4);
        due.is("12: the pad is empty", x.told(0), 0);
        due.is("12: where A", x.told(10), 1);
        due.is("12: where C", x.told(30), 1);
        due.is("12: light of A", x.told(12), 43);
        due.is("12: light of B", x.told(22), 62);
        due.is("12: carries", x.told(13), 2);
        due.is("12: fog", x.told(2), 1);
        due.is("12: ways are in fog", x.way(0, 1, 0), 14);
        Due.say(x, "CbA-");
        due.is("12: he is carried still", x.judge(1), 3);
        Due.sayAnew(x, "A-CaAa~~~");
        due.is("12: acts then", x.done(), 6);
        due.is("12: light of C", x.told(32), 985);
        due.is("12: fog no more", x.told(2), 0);
        due.is("12: ways are clear", x.way(0, 1, 0), 7);
        due.is("12: home stays", x.told(11), 3);
    }

    private static void doneRefused() {
        LanternSteps x = marsh();
        Due.say(x, "AbEa");
        due.is("12: it can not be", x.done(), LanternSteps.STATE);
        due.is("12: nothing changed", x.told(10), 0);
        due.is("12: the pad stays", x.told(0), 4);
        x.say('A');
        due.is("12: a fault", x.done(), LanternSteps.NO);
        due.is("12: the pad stays", x.told(0), 5);
        due.is("12: light stays", x.told(12), 100);
    }

    private static void ways() {
        LanternSteps x = marsh();
        due.is("13: a to d", x.way(0, 3, 0), 32);
        due.is("13: by b", x.way(0, 3, 1), 1);
        due.is("13: d to a", x.way(3, 0, 0), 32);
        due.is("13: by c", x.way(3, 0, 1), 2);
        due.is("13: a plank alone", x.way(0, 1, 1), 1);
        due.is("13: one is there", x.way(3, 3, 0), 0);
        due.is("13: no first place", x.way(3, 3, 1), LanternSteps.NONE);
        due.is("13: no way", x.way(0, 4, 0), LanternSteps.NONE);
        due.is("13: no way, no first", x.way(0, 4, 1), LanternSteps.NONE);
        x.plank(0, 2, 27, false);
        due.is("13: as dear by c: b is the least", x.way(0, 3, 1), 1);
        due.is("13: back: c", x.way(3, 0, 1), 2);
        due.is("13: from c a is the least", x.way(2, 0, 1), 0);
        x.plank(0, 2, 26, false);
        due.is("13: c is cheaper", x.way(0, 3, 1), 2);
        due.is("13: its cost", x.way(0, 3, 0), 31);
        x.fog(true);
        due.is("13: in fog", x.way(0, 3, 0), 62);
        x.plank(0, 2, 0, false);
        due.is("13: a plank less", x.way(0, 3, 0), 64);
        LanternSteps longest = new LanternSteps();
        for (int place = 0; place < 11; place++) {
            longest.plank(place, place + 1, 99, true);
        }
        longest.fog(true);
        due.is("13: the dearest way", longest.way(0, 11, 0), 11 * 396);
        due.is("13: its first place", longest.way(11, 0, 1), 10);
    }

    private static void waysRefused() {
        LanternSteps x = marsh();
        due.is("13: from -1", x.way(-1, 0, 0), LanternSteps.UNKNOWN);
        due.is("13: from 12", x.way(12, 0, 0), LanternSteps.UNKNOWN);
        due.is("13: to -1", x.way(0, -1, 0), LanternSteps.UNKNOWN);
        due.is("13: to 12", x.way(0, 12, 2), LanternSteps.UNKNOWN);
        due.is("13: what 2", x.way(0, 1, 2), LanternSteps.OUTSIDE);
        due.is("13: what -1", x.way(0, 1, -1), LanternSteps.OUTSIDE);
    }

    private static void far() {
        LanternSteps x = marsh();
        due.is("14: all four", x.far(0), 15);
        due.is("14: B can not go by the wet plank", x.far(1), 3);
        due.is("14: no light", x.far(3), 1);
        x.walker(0, 0, 0, 27);
        due.is("14: just to c", x.far(0), 7);
        x.walker(0, 0, 0, 26);
        due.is("14: not to c", x.far(0), 3);
        x.walker(0, 11, 0, 999);
        due.is("14: no plank at all", x.far(0), 1 << 11);
        Due.say(x, "C+D");
        x.done();
        due.is("14: carried or not", x.far(3), 1);
        due.is("14: nobody", x.far(5), LanternSteps.UNKNOWN);
        due.is("14: -1", x.far(-1), LanternSteps.UNKNOWN);
        due.is("14: 6", x.far(6), LanternSteps.UNKNOWN);
    }

    private static void left() {
        LanternSteps x = marsh();
        due.is("15: A", x.left(0), 10068);
        due.is("15: B", x.left(1), 10005);
        due.is("15: at home", x.left(2), 10999);
        due.is("15: too little", x.left(3), 9993);
        x.fog(true);
        due.is("15: A in fog", x.left(0), 10036);
        x.walker(3, 0, 7, 0);
        due.is("15: no way", x.left(3), LanternSteps.NONE);
        due.is("15: nobody", x.left(4), LanternSteps.UNKNOWN);
        due.is("15: -1", x.left(-1), LanternSteps.UNKNOWN);
        due.is("15: 6", x.left(6), LanternSteps.UNKNOWN);
    }

    private static void out() {
        LanternSteps x = marsh();
        x.walker(4, 0, 11, 0);
        x.walker(2, 0, 10, 0);
        due.is("16: how many", x.out(-1), 5);
        due.is("16: B, of two with 7", x.out(0), 1);
        due.is("16: D", x.out(1), 3);
        due.is("16: A", x.out(2), 0);
        due.is("16: C has no way", x.out(3), 2);
        due.is("16: nor has E", x.out(4), 4);
        due.is("16: no more", x.out(5), LanternSteps.NONE);
        due.is("16: -2", x.out(-2), LanternSteps.NONE);
        x.walker(5, 5, 5, 0);
        due.is("16: F is at home", x.out(0), 5);
        due.is("16: then B", x.out(1), 1);
        x.leave(1);
        due.is("16: then D", x.out(1), 3);
        due.is("16: how many now", x.out(-1), 5);
    }
}
