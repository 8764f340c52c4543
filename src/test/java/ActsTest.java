/** The bounds of evenings: which sign can stand where, the reasons and the least of several, light to the last step. */
public final class ActsTest {
    private static final int NONE = LanternSteps.NONE;
    private static final int STATE = LanternSteps.STATE;

    private static final Due due = new Due("ActsTest");

    public static void main(String[] args) {
        signsBetweenActs();
        signsBehindWalker();
        signsBeforeOther();
        faultsChange();
        moreMustCome();
        lettersOfPlaces();
        lettersOfWalkers();
        reasonsOfWalking();
        reasonsOfTakingUp();
        reasonsOfSettingDown();
        reasonsOfGiving();
        firstOfSeveral();
        lightToWalk();
        lightToGive();
        lightAbove999();
        everyDigit();
        carriedAlong();
        doneOrNot();
        due.end();
    }

    private static boolean isBetween(int sign, char least, char most) {
        return sign >= least && sign <= most;
    }

    private static void signsBetweenActs() {
        LanternSteps x = new LanternSteps();
        for (int sign = 33; sign <= 126; sign++) {
            x.wipe();
            x.say(sign);
            int want = sign == '~' ? NONE : isBetween(sign, 'A', 'F') ? 1 : 0;
            due.is("8: fault of " + (char) sign, x.fault(), want);
        }
        LanternSteps y = new LanternSteps();
        for (int sign = 33; sign <= 126; sign++) {
            Due.sayAnew(y, "~");
            y.say(sign);
            int want = sign == '~' ? NONE : isBetween(sign, 'A', 'F') ? 2 : 1;
            due.is("8: fault of ~" + (char) sign, y.fault(), want);
        }
    }

    private static void signsBehindWalker() {
        for (char walker = 'A'; walker <= 'F'; walker++) {
            LanternSteps x = new LanternSteps();
            for (int sign = 33; sign <= 126; sign++) {
                x.wipe();
                x.say(walker);
                x.say(sign);
                int want = 1;
                if (sign == '-' || isBetween(sign, 'a', 'l')) {
                    want = NONE;
                } else if (sign == '+' || isBetween(sign, '1', '9')) {
                    want = 2;
                }
                due.is("8: fault of " + walker + (char) sign, x.fault(), want);
            }
        }
    }

    private static void signsBeforeOther() {
        for (char act : "+123456789".toCharArray()) {
            LanternSteps x = new LanternSteps();
            for (int sign = 33; sign <= 126; sign++) {
                Due.sayAnew(x, "F" + act);
                x.say(sign);
                due.is("8: fault of F" + act + (char) sign, x.fault(), isBetween(sign, 'A', 'F') ? NONE : 2);
            }
        }
    }

    /** A sign that is said changes the fault; one that is not taken does not. */
    private static void faultsChange() {
        LanternSteps x = new LanternSteps();
        due.is("8: nothing", x.fault(), NONE);
        x.say('A');
        due.is("8: A", x.fault(), 1);
        x.say('5');
        due.is("8: A5", x.fault(), 2);
        x.say(' ');
        due.is("8: a sign that is not taken", x.fault(), 2);
        x.say('B');
        due.is("8: A5B", x.fault(), NONE);
        x.say(127);
        due.is("8: nor is this", x.fault(), NONE);
        x.say('x');
        due.is("8: A5Bx", x.fault(), 3);
        x.say('~');
        due.is("8: the first stays", x.fault(), 3);
        x.say('y');
        due.is("8: the first of two stays", x.fault(), 3);
        x.fault();
        due.is("8: asked again", x.fault(), 3);
        due.is("31: signs", x.told(0), 6);
    }

    private static void moreMustCome() {
        LanternSteps x = new LanternSteps();
        for (int signs = 1; signs <= 60; signs++) {
            x.say("A+B".charAt((signs - 1) % 3));
            due.is("8: " + signs + " signs of A+B", x.fault(), signs % 3 == 0 ? NONE : signs);
        }
        LanternSteps y = new LanternSteps();
        for (int signs = 1; signs <= 60; signs++) {
            y.say("Fl".charAt((signs - 1) % 2));
            due.is("8: " + signs + " signs of Fl", y.fault(), signs % 2 == 0 ? NONE : signs);
        }
    }

    /** a to l are the places 0 to 11, A to F the walkers 0 to 5. */
    private static void lettersOfPlaces() {
        for (int walker = 0; walker < 6; walker++) {
            LanternSteps x = new LanternSteps();
            for (int place = 0; place < 12; place++) {
                int from = (place + 5) % 12;
                x.plank(from, place, place + 1, false);
                x.walker(walker, from, 0, 20);
                String text = "" + (char) ('A' + walker) + (char) ('a' + place);
                Due.sayAnew(x, text);
                due.is("10: behind " + text, x.behind(walker, 0), place);
                due.is("10: light behind " + text, x.behind(walker, 1), 19 - place);
                due.is("11: who behind " + text, x.who(place), 1 << walker);
                x.plank(from, place, 0, false);
            }
        }
    }

    private static void lettersOfWalkers() {
        LanternSteps x = new LanternSteps();
        for (int walker = 0; walker < 6; walker++) {
            x.walker(walker, 11, 0, 10);
        }
        for (int pair = 0; pair < 36; pair++) {
            int one = pair / 6;
            int other = pair % 6;
            String letters = "" + (char) ('A' + one) + "+" + (char) ('A' + other);
            Due.sayAnew(x, letters);
            due.is("10: whom behind " + letters, x.behind(one, 2), one == other ? STATE : other);
            due.is("10: who behind " + letters, x.behind(other, 3), one == other ? STATE : one);
            Due.sayAnew(x, letters.replace('+', '1'));
            due.is("10: light given by " + letters, x.behind(one, 1), one == other ? STATE : 0);
            due.is("10: light given to " + letters, x.behind(other, 1), one == other ? STATE : 20);
        }
    }

    /** a-b 7, b-c 10 wet; A carries B at a, A has 6; C at a with 999; D at b with 0; E carries F at c. */
    private static LanternSteps marsh() {
        LanternSteps x = new LanternSteps();
        x.plank(0, 1, 7, false);
        x.plank(1, 2, 10, true);
        x.walker(0, 0, 3, 6);
        x.walker(1, 0, 0, 0);
        x.walker(2, 0, 0, 999);
        x.walker(3, 1, 1, 0);
        x.walker(4, 2, 1, 500);
        x.walker(5, 2, 1, 500);
        Due.say(x, "A+BE+F");
        x.done();
        return x;
    }

    private static void why(LanternSteps x, String text, int reason) {
        Due.sayAnew(x, text);
        due.is("9: act of " + text, x.judge(0), 0);
        due.is("9: why of " + text, x.judge(1), reason);
        due.is("9: costs of " + text, x.judge(2), STATE);
        due.is("10: behind " + text, x.behind(0, 0), STATE);
        due.is("11: who behind " + text, x.who(0), STATE);
        due.is("12: done " + text, x.done(), STATE);
    }

    private static void fine(LanternSteps x, String text, int costs) {
        Due.sayAnew(x, text);
        due.is("9: act of " + text, x.judge(0), NONE);
        due.is("9: why of " + text, x.judge(1), NONE);
        due.is("9: costs of " + text, x.judge(2), costs);
    }

    private static void reasonsOfWalking() {
        LanternSteps x = marsh();
        why(x, "Bb", 3);
        why(x, "Bl", 3);
        why(x, "Ba", 3);
        why(x, "Ab", 6);
        why(x, "Al", 5);
        why(x, "Aa", 5);
        why(x, "Dl", 5);
        why(x, "Dc", 6);
        fine(x, "Cb", 7);
        fine(x, "Eb", 20);
        x.leave(2);
        why(x, "Cb", 1);
        why(x, "Cl", 1);
    }

    private static void reasonsOfTakingUp() {
        LanternSteps x = marsh();
        why(x, "A+A", 2);
        why(x, "B+B", 2);
        why(x, "D+D", 2);
        why(x, "C+B", 3);
        why(x, "B+C", 3);
        why(x, "A+B", 3);
        why(x, "B+A", 3);
        why(x, "B+F", 3);
        why(x, "D+B", 3);
        why(x, "A+F", 3);
        why(x, "A+D", 4);
        why(x, "D+A", 4);
        why(x, "A+E", 4);
        why(x, "C+D", 4);
        why(x, "A+C", 7);
        why(x, "C+A", 7);
        x.leave(2);
        why(x, "A+C", 1);
        why(x, "C+A", 1);
        why(x, "B+C", 1);
        why(x, "C+B", 1);
        why(x, "C+C", 1);
        why(x, "D+C", 1);
        x.walker(2, 2, 0, 0);
        x.walker(4, 2, 0, 0);
        x.walker(5, 2, 0, 0);
        fine(x, "E+C", 0);
        Due.sayAnew(x, "C+EF+C");
        due.is("9: who carries is not taken up", x.judge(1), 7);
        Due.sayAnew(x, "C+EC+F");
        due.is("9: who carries takes up no other", x.judge(1), 7);
    }

    private static void reasonsOfSettingDown() {
        LanternSteps x = marsh();
        fine(x, "A-", 0);
        fine(x, "A-E-", 0);
        why(x, "B-", 3);
        why(x, "C-", 7);
        why(x, "D-", 7);
        x.leave(2);
        why(x, "C-", 1);
        x.leave(1);
        why(x, "A-", 7);
        why(x, "B-", 1);
    }

    private static void reasonsOfGiving() {
        LanternSteps x = marsh();
        why(x, "A1A", 2);
        why(x, "B1B", 2);
        why(x, "C1C", 2);
        why(x, "C1B", 3);
        why(x, "B1C", 3);
        why(x, "A1B", 3);
        why(x, "B1A", 3);
        why(x, "D1B", 3);
        why(x, "E1B", 3);
        why(x, "F1C", 3);
        why(x, "A1D", 4);
        why(x, "D9E", 4);
        why(x, "C1E", 4);
        why(x, "A1C", 6);
        fine(x, "C9A", 0);
        fine(x, "C1AA1C", 0);
        x.leave(2);
        why(x, "A1C", 1);
        why(x, "C1A", 1);
        why(x, "B1C", 1);
        why(x, "C1B", 1);
        why(x, "C1C", 1);
    }

    /** The first act that can not be, whatever comes behind it. */
    private static void firstOfSeveral() {
        LanternSteps x = marsh();
        Due.sayAnew(x, "~~Cb~C-A+A");
        due.is("9: the fifth", x.judge(0), 4);
        due.is("9: why", x.judge(1), 7);
        Due.sayAnew(x, "A-A-");
        due.is("9: the last", x.judge(0), 1);
        due.is("9: why", x.judge(1), 7);
        Due.sayAnew(x, "~".repeat(58) + "C-");
        due.is("9: the last of a full pad", x.judge(0), 58);
        Due.sayAnew(x, "C-" + "~".repeat(58));
        due.is("9: the first of a full pad", x.judge(0), 0);
    }

    private static void lightToWalk() {
        LanternSteps x = new LanternSteps();
        x.plank(0, 11, 99, true);
        int[] enough = {198, 396};
        for (int fog = 0; fog < 2; fog++) {
            x.fog(fog == 1);
            x.walker(0, 0, 0, enough[fog]);
            fine(x, "Al", enough[fog]);
            due.is("10: none is left", x.behind(0, 1), 0);
            due.is("10: he is there", x.behind(0, 0), 11);
            x.walker(0, 0, 0, enough[fog] - 1);
            why(x, "Al", 6);
            x.walker(0, 0, 0, enough[fog] + 1);
            due.is("10: one is left", x.behind(0, 1), 1);
        }
        x.fog(false);
        x.plank(0, 11, 1, false);
        x.walker(0, 0, 0, 0);
        why(x, "Al", 6);
        x.walker(0, 0, 0, 1);
        fine(x, "Al", 1);
        x.walker(0, 0, 0, 999);
        x.plank(0, 11, 99, true);
        fine(x, "~AlAa", 792);
        due.is("10: of 999", x.behind(0, 1), 207);
    }

    private static void lightToGive() {
        LanternSteps x = new LanternSteps();
        x.walker(0, 0, 0, 0);
        x.walker(5, 0, 0, 0);
        for (int tens = 1; tens <= 9; tens++) {
            x.walker(0, 0, 0, 10 * tens);
            fine(x, "A" + tens + "F", 0);
            due.is("10: all is given", x.behind(0, 1), 0);
            due.is("10: all is got", x.behind(5, 1), 10 * tens);
            x.walker(0, 0, 0, 10 * tens - 1);
            why(x, "A" + tens + "F", 6);
        }
    }

    private static void lightAbove999() {
        LanternSteps x = new LanternSteps();
        int[][] cases = {{1, 988, 998}, {1, 989, 999}, {1, 990, 999}, {1, 999, 999}, {9, 908, 998}, {9, 909, 999},
            {9, 910, 999}, {9, 999, 999}};
        for (int[] one : cases) {
            x.walker(0, 3, 0, 999);
            x.walker(1, 3, 0, one[1]);
            Due.sayAnew(x, "A" + one[0] + "B");
            String text = one[1] + " and " + one[0] + " tens";
            due.is("9: it can be, " + text, x.judge(0), NONE);
            due.is("10: " + text, x.behind(1, 1), one[2]);
            due.is("10: the giver, " + text, x.behind(0, 1), 999 - 10 * one[0]);
            due.is("12: done, " + text, x.done(), 1);
            due.is("31: " + text, x.told(22), one[2]);
            due.is("31: the giver, " + text, x.told(12), 999 - 10 * one[0]);
        }
    }

    private static void everyDigit() {
        LanternSteps x = new LanternSteps();
        x.walker(0, 0, 0, 999);
        x.walker(1, 0, 0, 0);
        Due.say(x, "A1BA2BA3BA4BA5BA6BA7BA8BA9B");
        due.is("10: 450 are given", x.behind(1, 1), 450);
        due.is("10: 549 are left", x.behind(0, 1), 549);
        Due.sayAnew(x, "A0B");
        due.is("8: no 0", x.fault(), 1);
    }

    private static void carriedAlong() {
        LanternSteps x = marsh();
        x.walker(0, 0, 3, 54);
        x.walker(1, 0, 0, 0);
        Due.say(x, "A+BAbAcAb");
        due.is("9: only who walks pays", x.judge(2), 47);
        due.is("10: he is there, too", x.behind(1, 0), 1);
        due.is("10: by A", x.behind(1, 3), 0);
        due.is("10: his light stays", x.behind(1, 1), 0);
        due.is("11: all three at b", x.who(1), 11);
        Due.say(x, "A-Aa");
        due.is("10: he is set down", x.behind(1, 0), 1);
        due.is("10: A is home, without light", x.behind(0, 1), 0);
        due.is("11: two are left at b", x.who(1), 10);
    }

    /** What can not be is not done in part; what can is done in all. */
    private static void doneOrNot() {
        LanternSteps x = marsh();
        Due.say(x, "Cb~A-Ab");
        due.is("12: the last can not be", x.done(), STATE);
        due.is("31: C is where he was", x.told(30), 0);
        due.is("31: no fog", x.told(2), 0);
        due.is("31: A carries still", x.told(13), 1);
        due.is("31: the pad stays", x.told(0), 7);
        Due.sayAnew(x, "Cb~A-");
        due.is("12: without it", x.done(), 3);
        due.is("31: C walked", x.told(30), 1);
        due.is("31: fog", x.told(2), 1);
        due.is("31: A carries nobody", x.told(13), NONE);
        due.is("31: the pad is empty", x.told(0), 0);
    }
}
