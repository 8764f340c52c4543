/** Sentences of the document that say what is no matter to a call: the pad, who carries whom, what was asked before. */
public final class SentencesTest {
    private static final int NONE = LanternSteps.NONE;

    private static final Due due = new Due("SentencesTest");

    public static void main(String[] args) {
        padIsNoMatter();
        carryingIsNoMatter();
        fogIsAsItIsNow();
        leastAtEachPlace();
        sightsFromWhereHeIs();
        sightsInAnyOrder();
        yearsAndEveningsAreApart();
        padIsJudgedAsItIsNow();
        due.end();
    }

    /** a-b 7, b-c 10 wet, a-c 30, c-d 5; A at a (home d, 100), B at b (a, 12), C at a (c, 27), E at d (a, 0). */
    private static LanternSteps marsh() {
        LanternSteps x = new LanternSteps();
        x.plank(0, 1, 7, false);
        x.plank(1, 2, 10, true);
        x.plank(0, 2, 30, false);
        x.plank(2, 3, 5, false);
        x.walker(0, 0, 3, 100);
        x.walker(1, 1, 0, 12);
        x.walker(2, 0, 2, 27);
        x.walker(4, 3, 0, 0);
        x.seen(2, 73);
        return x;
    }

    /** What is due of the marsh as it is now, without fog. */
    private static void asItIsNow(String text, LanternSteps x) {
        due.is("13: the way" + text, x.way(0, 3, 0), 32);
        due.is("13: its first place" + text, x.way(0, 3, 1), 1);
        int[] far = {15, 3, 7, -1, 8};
        int[] left = {10068, 10005, 10000, -1, 9968};
        int[] out = {1, 2, 0, 4, NONE};
        for (int i = 0; i < 5; i++) {
            due.is("14: far " + i + text, x.far(i), far[i]);
            due.is("15: left " + i + text, x.left(i), left[i]);
            due.is("16: out " + i + text, x.out(i), out[i]);
        }
        due.is("17: round" + text, x.round(0, 8, 0), 64);
        int[] more = {0, 0, 0, 32};
        for (int place = 0; place < 4; place++) {
            due.is("18: more at " + place + text, x.more(place), more[place]);
        }
        due.is("19: decides" + text, x.decides(0), 27);
        due.is("20: wax" + text, x.wax(0), 32);
        due.is("21: post" + text, x.post(0, 0), 0);
        due.is("21: together" + text, x.post(0, 1), 59);
        due.is("21: the dearest least" + text, x.post(1, 0), 1);
        due.is("21: which is" + text, x.post(1, 1), 25);
        due.is("22: by b" + text, x.by(1), 4);
        due.is("25: whose" + text, x.whose(), 1);
        due.is("26: ask" + text, x.ask(0), 0);
        due.is("26: how many" + text, x.ask(1), 1);
        due.is("27: A's light does" + text, x.chance(0, 5, 0, 0), 1);
        due.is("27: the mean" + text, x.chance(0, 5, 1, 0), 48);
        due.is("27: C's light does" + text, x.chance(2, 5, 0, 1), 4);
    }

    /** By seed 0 the second draw is C to b; nothing that is only said is so. */
    private static void padIsNoMatter() {
        for (String said : new String[] {"", "~", "~AbA5B", "AbA5BB+AC-", "A", "A+", "Da", "x"}) {
            LanternSteps x = marsh();
            Due.say(x, said);
            String text = ", with " + said + " on the pad";
            asItIsNow(text, x);
            due.is("28: a year" + text, x.year(0, 2, 0), 7);
            due.is("31: no fog" + text, x.told(2), 0);
            due.is("31: A's light" + text, x.told(12), 100);
            due.is("31: signs" + text, x.told(0), said.length());
            x.image(0);
            x.restore(0);
            asItIsNow(text + ", restored", x);
        }
    }

    private static void carryingIsNoMatter() {
        LanternSteps x = marsh();
        Due.say(x, "A+C");
        due.is("12: A carries C", x.done(), 1);
        asItIsNow(", A carries C", x);
        due.is("28: but C can not walk", x.year(0, 2, 2), 0);
        LanternSteps y = marsh();
        Due.say(y, "C+A");
        due.is("12: C carries A", y.done(), 1);
        asItIsNow(", C carries A", y);
        due.is("28: and C can walk", y.year(0, 2, 2), 1);
    }

    /** Fog that came by an evening, by a call, or by an image is the same fog. */
    private static void fogIsAsItIsNow() {
        LanternSteps x = marsh();
        due.is("13: before", x.way(0, 3, 0), 32);
        x.say('~');
        due.is("13: only said", x.way(0, 3, 0), 32);
        x.done();
        due.is("13: done", x.way(0, 3, 0), 64);
        due.is("15: left in fog", x.left(0), 10036);
        due.is("20: wax in fog", x.wax(0), 64);
        x.image(1);
        x.fog(false);
        due.is("13: no more", x.way(0, 3, 0), 32);
        x.restore(1);
        due.is("13: restored", x.way(0, 3, 0), 64);
        x.say('~');
        due.is("9: an evening begins in it", x.judge(2), 0);
        Due.say(x, "Ab~Aa");
        due.is("9: clear, and in fog again", x.judge(2), 7 + 14);
        due.is("13: fog still", x.way(0, 3, 0), 64);
    }

    /**
     * From b to e there are three ways for 4: by c (1, 3), by d (2, 2), at once. The way from a goes by b and there by
     * the least, c; back it goes to b at once, for b is less than c and d.
     */
    private static void leastAtEachPlace() {
        LanternSteps x = new LanternSteps();
        x.plank(0, 1, 1, false);
        x.plank(1, 2, 1, false);
        x.plank(2, 4, 3, false);
        x.plank(1, 3, 2, false);
        x.plank(3, 4, 2, false);
        x.plank(1, 4, 4, false);
        due.is("13: a to e", x.way(0, 4, 0), 5);
        due.is("13: b first", x.way(0, 4, 1), 1);
        due.is("13: c behind b", x.way(1, 4, 1), 2);
        due.is("13: b is the least back", x.way(4, 0, 1), 1);
        x.walker(0, 0, 4, 6);
        due.is("27: planks of 1, 1, 3, one step over", x.chance(0, 5, 0, 0), 3);
        due.is("27: of 8", x.chance(0, 5, 0, 1), 8);
        x.walker(0, 4, 0, 6);
        due.is("27: back: planks of 4, 1", x.chance(0, 5, 0, 0), 1);
        due.is("27: of 2", x.chance(0, 5, 0, 1), 2);
        due.is("22: some least way goes by d", x.by(3), 4);
        due.is("22: and by c", x.by(2), 4);
    }

    /** He goes on from where he is now: what was passed before is walked back to. */
    private static void sightsFromWhereHeIs() {
        LanternSteps x = marsh();
        x.forget();
        x.seen(3, 68);
        due.is("25: A from a", x.whose(), 1);
        Due.say(x, "Ab");
        due.is("25: only said", x.whose(), 1);
        x.done();
        due.is("25: A from b, on the way", x.whose(), 1);
        x.seen(0, 100);
        due.is("25: he had 100 at a, but has not if he goes back", x.whose(), 0);
        x.forget();
        x.seen(0, 86);
        due.is("25: he would have 86", x.whose(), 1);
        x.seen(1, 93);
        due.is("25: where he is", x.whose(), 1);
        Due.say(x, "Aa");
        x.done();
        due.is("25: back at a with 86 he has less at b", x.whose(), 0);
    }

    private static void sightsInAnyOrder() {
        int[][] sights = {{0, 100}, {1, 93}, {2, 73}, {3, 68}};
        for (int start = 0; start < 4; start++) {
            LanternSteps x = marsh();
            x.forget();
            for (int i = 0; i < 4; i++) {
                int[] sight = sights[(start + 3 * i) % 4];
                due.is("23: how many", x.seen(sight[0], sight[1]), i + 1);
                due.is("25: A by " + (i + 1) + " from " + start, x.whose(), 1);
            }
            due.is("23: one of them again", x.seen(2, 73), 5);
            due.is("25: A still", x.whose(), 1);
            x.seen(2, 72);
            due.is("25: not with two lights at one place", x.whose(), 0);
        }
    }

    private static void yearsAndEveningsAreApart() {
        LanternSteps x = marsh();
        Due.say(x, "AbA1B~");
        due.is("9: costs", x.judge(2), 7);
        due.is("28: year", x.year(0, 2, 0), 7);
        due.is("28: walks", x.year(0, 2, 2), 1);
        due.is("10: behind", x.behind(0, 1), 83);
        due.is("28: year again", x.year(0, 2, 0), 7);
        due.is("11: who", x.who(1), 3);
        due.is("28: at home", x.year(0, 2, 1), 0);
        due.is("12: acts", x.done(), 3);
        due.is("31: light", x.told(12), 83);
        due.is("31: C did not walk", x.told(30), 0);
        due.is("28: in fog then", x.year(0, 2, 0), 14);
    }

    /** The same text can be, and can not be, as things change around it. */
    private static void padIsJudgedAsItIsNow() {
        LanternSteps x = marsh();
        x.image(0);
        Due.say(x, "Ab");
        due.is("9: it can be", x.judge(1), NONE);
        x.leave(0);
        due.is("9: nobody is there", x.judge(1), 1);
        x.restore(0);
        due.is("9: he is again", x.judge(1), NONE);
        x.plank(0, 1, 0, false);
        due.is("9: no plank is there", x.judge(1), 5);
        x.restore(0);
        due.is("9: it is again", x.judge(1), NONE);
        x.plank(0, 1, 51, true);
        due.is("9: 102 is too much", x.judge(1), 6);
        x.restore(0);
        due.is("12: done", x.done(), 1);
        due.is("31: at b", x.told(10), 1);
    }
}
