/** Promises 17 to 22: round, more, decides, wax, post, by. */
public final class RoundsPlanksTest {
    private static final Due due = new Due("RoundsPlanksTest");

    public static void main(String[] args) {
        round();
        roundOfSix();
        roundRefused();
        more();
        decides();
        wax();
        post();
        postRefused();
        by();
        due.end();
    }

    /** a-b 7, b-c 10 wet, a-c 30, c-d 5; apart from it f-g 3. */
    private static LanternSteps marsh() {
        LanternSteps x = new LanternSteps();
        x.plank(0, 1, 7, false);
        x.plank(1, 2, 10, true);
        x.plank(0, 2, 30, false);
        x.plank(2, 3, 5, false);
        x.plank(5, 6, 3, false);
        return x;
    }

    private static void round() {
        LanternSteps x = marsh();
        due.is("17: no stop", x.round(0, 0, 0), 0);
        due.is("17: no first", x.round(0, 0, 1), LanternSteps.NONE);
        due.is("17: to itself", x.round(2, 4, 0), 0);
        due.is("17: itself is first", x.round(2, 4, 1), 2);
        due.is("17: b and back", x.round(0, 2, 0), 14);
        due.is("17: b is first", x.round(0, 2, 1), 1);
        due.is("17: c by b both ways", x.round(0, 4, 0), 54);
        due.is("17: b first of b, c", x.round(0, 6, 1), 1);
        due.is("17: all of four", x.round(0, 15, 0), 64);
        due.is("17: a, itself, is first", x.round(0, 15, 1), 0);
        due.is("17: from b: a first", x.round(1, 13, 1), 0);
        due.is("17: from b", x.round(1, 13, 0), 64);
        due.is("17: one of two is not to be got to", x.round(0, 34, 0), LanternSteps.NONE);
        due.is("17: nor first", x.round(0, 34, 1), LanternSteps.NONE);
        due.is("17: nor where one is", x.round(0, 33, 1), LanternSteps.NONE);
        due.is("17: there", x.round(5, 64, 0), 6);
        due.is("17: a set with its own place", x.round(6, 96, 0), 6);
        due.is("17: whose first is f", x.round(6, 96, 1), 5);
        x.fog(true);
        due.is("17: in fog", x.round(0, 2, 0), 28);
    }

    /** A ring of six with a spoke, so that the order matters. */
    private static void roundOfSix() {
        LanternSteps x = new LanternSteps();
        x.plank(0, 5, 1, false);
        x.plank(5, 2, 1, false);
        x.plank(2, 9, 1, false);
        x.plank(9, 3, 1, false);
        x.plank(3, 7, 1, false);
        x.plank(7, 1, 1, false);
        x.plank(1, 0, 2, false);
        int ring = 1 << 5 | 1 << 2 | 1 << 9 | 1 << 3 | 1 << 7 | 1 << 1;
        due.is("17: the ring", x.round(0, ring, 0), 8);
        due.is("17: both ways are as dear: b first", x.round(0, ring, 1), 1);
        due.is("17: from j: c first", x.round(9, 1 | 1 << 2 | 1 << 3, 1), 0);
        due.is("17: from j by two", x.round(9, 1 << 3 | 1 << 2, 1), 2);
        x.plank(1, 0, 9, false);
        due.is("17: out and back", x.round(0, ring, 0), 12);
        due.is("17: least first of those as dear", x.round(0, ring, 1), 1);
        x.plank(0, 1, 0, false);
        due.is("17: a row", x.round(0, ring, 0), 12);
        LanternSteps y = new LanternSteps();
        y.plank(11, 5, 1, false);
        y.plank(5, 0, 1, false);
        y.plank(0, 6, 1, false);
        y.plank(6, 11, 1, false);
        due.is("17: a is in the middle", y.round(11, 1 | 1 << 5 | 1 << 6, 0), 4);
        due.is("17: f comes first", y.round(11, 1 | 1 << 5 | 1 << 6, 1), 5);
    }

    private static void roundRefused() {
        LanternSteps x = marsh();
        due.is("17: place -1", x.round(-1, 0, 0), LanternSteps.UNKNOWN);
        due.is("17: place 12", x.round(12, 0, 0), LanternSteps.UNKNOWN);
        due.is("17: set -1", x.round(0, -1, 0), LanternSteps.UNKNOWN);
        due.is("17: set 4096", x.round(0, 4096, 5), LanternSteps.UNKNOWN);
        due.is("17: what 2", x.round(0, 4095, 2), LanternSteps.OUTSIDE);
        due.is("17: what -1", x.round(0, 1, -1), LanternSteps.OUTSIDE);
        due.is("17: seven", x.round(0, 127, 1), LanternSteps.FULL);
        due.is("17: twelve", x.round(0, 4095, 0), LanternSteps.FULL);
        due.is("17: six that are not joined", x.round(0, 63, 0), LanternSteps.NONE);
        due.is("17: six, too", x.round(0, 4032, 1), LanternSteps.NONE);
    }

    private static void more() {
        LanternSteps x = marsh();
        due.is("18: nobody", x.more(0), 0);
        x.walker(0, 0, 3, 30);
        due.is("18: 32 less 30", x.more(0), 2);
        x.walker(1, 0, 1, 8);
        due.is("18: B has one over", x.more(0), 1);
        x.walker(2, 0, 0, 1);
        due.is("18: C has another", x.more(0), 0);
        x.walker(2, 0, 0, 999);
        due.is("18: it does", x.more(0), 0);
        x.walker(2, 1, 0, 0);
        due.is("18: only who is there", x.more(0), 1);
        due.is("18: at b", x.more(1), 7);
        Due.say(x, "A+B");
        x.done();
        due.is("18: carried or not", x.more(0), 1);
        x.fog(true);
        due.is("18: in fog", x.more(0), 64 + 14 - 38);
        x.walker(3, 0, 5, 999);
        due.is("18: one has no way", x.more(0), LanternSteps.NONE);
        due.is("18: elsewhere it is no matter", x.more(1), 14);
        due.is("18: -1", x.more(-1), LanternSteps.UNKNOWN);
        due.is("18: 12", x.more(12), LanternSteps.UNKNOWN);
        LanternSteps y = marsh();
        y.walker(0, 0, 0, 999);
        y.walker(1, 0, 0, 999);
        for (int walker = 2; walker < 6; walker++) {
            y.walker(walker, 0, 3, 0);
        }
        due.is("18: above 999 together", y.more(0), 0);
    }

    private static void decides() {
        LanternSteps x = marsh();
        due.is("19: two", x.decides(-1), 2);
        due.is("19: c-d", x.decides(0), 2 * 12 + 3);
        due.is("19: f-g", x.decides(1), 5 * 12 + 6);
        due.is("19: no more", x.decides(2), LanternSteps.NONE);
        due.is("19: -2", x.decides(-2), LanternSteps.NONE);
        x.plank(11, 0, 99, true);
        due.is("19: a-l comes first", x.decides(0), 11);
        due.is("19: then c-d", x.decides(1), 27);
        x.plank(0, 2, 0, false);
        due.is("19: no ring", x.decides(-1), 5);
        due.is("19: a-b", x.decides(0), 1);
        due.is("19: a-l", x.decides(1), 11);
        due.is("19: b-c", x.decides(2), 14);
        x.plank(3, 11, 1, false);
        due.is("19: a ring of four and one", x.decides(-1), 1);
        due.is("19: f-g alone", x.decides(0), 66);
        x.plank(5, 6, 0, false);
        due.is("19: none", x.decides(0), LanternSteps.NONE);
        LanternSteps y = new LanternSteps();
        y.plank(0, 5, 1, false);
        y.plank(5, 3, 1, false);
        due.is("19: both", y.decides(-1), 2);
        due.is("19: d-f by the lesser first", y.decides(1), 3 * 12 + 5);
    }

    private static void wax() {
        LanternSteps x = new LanternSteps();
        due.is("20: nothing", x.wax(0), 0);
        due.is("20: no planks", x.wax(1), 0);
        x = marsh();
        due.is("20: without a-c", x.wax(0), 7 + 20 + 5 + 3);
        due.is("20: how many", x.wax(1), 4);
        x.plank(0, 2, 19, false);
        due.is("20: without b-c", x.wax(0), 7 + 19 + 5 + 3);
        x.fog(true);
        due.is("20: in fog", x.wax(0), 68);
        due.is("20: as many", x.wax(1), 4);
        x.plank(3, 5, 1, false);
        due.is("20: joined", x.wax(1), 5);
        due.is("20: what that costs", x.wax(0), 70);
        x.plank(0, 6, 1, true);
        due.is("20: a ring opens at the dearest", x.wax(0), 14 + 10 + 6 + 2 + 4);
        due.is("20: what 2", x.wax(2), LanternSteps.OUTSIDE);
        due.is("20: what -1", x.wax(-1), LanternSteps.OUTSIDE);
        LanternSteps all = new LanternSteps();
        for (int place = 0; place < 12; place++) {
            for (int other = place + 1; other < 12; other++) {
                all.plank(place, other, 5 + place + other, false);
            }
        }
        due.is("20: eleven of sixty-six", all.wax(1), 11);
        due.is("20: all by a", all.wax(0), 11 * 5 + 66);
    }

    private static void post() {
        LanternSteps x = marsh();
        due.is("21: nobody", x.post(0, 0), LanternSteps.NONE);
        due.is("21: nobody", x.post(1, 1), LanternSteps.NONE);
        x.walker(0, 9, 3, 0);
        due.is("21: at his home", x.post(0, 0), 3);
        due.is("21: for nothing", x.post(0, 1), 0);
        due.is("21: dearest: his home", x.post(1, 0), 3);
        due.is("21: dearest: for nothing", x.post(1, 1), 0);
        x.walker(1, 9, 0, 0);
        due.is("21: a, the least of those with 32", x.post(0, 0), 0);
        due.is("21: together", x.post(0, 1), 32);
        due.is("21: b has the dearest least", x.post(1, 0), 1);
        due.is("21: which is", x.post(1, 1), 25);
        x.walker(2, 9, 3, 0);
        due.is("21: twice a home counts twice", x.post(0, 0), 3);
        due.is("21: together", x.post(0, 1), 32);
        due.is("21: the dearest does not count twice", x.post(1, 0), 1);
        x.fog(true);
        due.is("21: in fog", x.post(1, 1), 50);
        x.walker(3, 9, 5, 0);
        due.is("21: from no place", x.post(0, 0), LanternSteps.NONE);
        due.is("21: from no place", x.post(1, 1), LanternSteps.NONE);
    }

    private static void postRefused() {
        LanternSteps x = marsh();
        due.is("21: what 2", x.post(2, 0), LanternSteps.OUTSIDE);
        due.is("21: what -1", x.post(-1, 0), LanternSteps.OUTSIDE);
        due.is("21: part 2", x.post(0, 2), LanternSteps.OUTSIDE);
        due.is("21: part -1", x.post(0, -1), LanternSteps.OUTSIDE);
    }

    private static void by() {
        LanternSteps x = marsh();
        due.is("22: by a", x.by(0), 0);
        due.is("22: by b: a-c, a-d", x.by(1), 4);
        due.is("22: by c: a-d, b-d", x.by(2), 4);
        due.is("22: by d", x.by(3), 0);
        due.is("22: by one apart", x.by(9), 0);
        x.plank(0, 2, 27, false);
        due.is("22: some least way is enough", x.by(1), 4);
        x.plank(0, 2, 26, false);
        due.is("22: none is", x.by(1), 0);
        x.plank(6, 0, 1, false);
        due.is("22: by a: f, g to b, c, d", x.by(0), 12);
        due.is("22: -1", x.by(-1), LanternSteps.UNKNOWN);
        due.is("22: 12", x.by(12), LanternSteps.UNKNOWN);
    }
}
