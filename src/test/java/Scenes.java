import java.util.Arrays;

/** Marshes to try a call on, and all that can be asked of one, so that two can be compared. */
final class Scenes {
    /** Some call on a marsh, with what it answers. */
    interface Call {
        long on(LanternSteps x);
    }

    /** Makes the same marsh again and again: each is asked 512 times at most. */
    interface Scene {
        LanternSteps make();
    }

    /** What the places of a look are told by: the call whose answer stands there. */
    private static final String[] NAMES = new String[600];

    private Scenes() {
    }

    /** All there is: planks, five walkers, one of them carried, a sight, a text that can be, and one image. */
    static LanternSteps rich() {
        LanternSteps x = new LanternSteps();
        x.plank(0, 1, 3, true);
        x.plank(7, 8, 44, false);
        x.walker(3, 7, 8, 55);
        x.fog(true);
        x.seen(11, 5);
        x.image(0);
        x.plank(7, 8, 0, false);
        x.leave(3);
        x.fog(false);
        x.forget();
        x.plank(0, 1, 7, false);
        x.plank(1, 2, 10, true);
        x.plank(0, 2, 30, false);
        x.plank(2, 3, 5, false);
        x.plank(10, 11, 99, true);
        x.walker(0, 0, 3, 100);
        x.walker(1, 1, 0, 12);
        x.walker(2, 0, 2, 999);
        x.walker(4, 0, 5, 40);
        x.walker(5, 11, 11, 0);
        Due.say(x, "C+E");
        x.done();
        x.seen(1, 93);
        Due.say(x, "AbA5B~");
        return x;
    }

    static LanternSteps withText(String text) {
        LanternSteps x = rich();
        Due.sayAnew(x, text);
        return x;
    }

    /** More must come. */
    static LanternSteps faulty() {
        return withText("AbA");
    }

    /** Its second act can not be: there is no D. */
    static LanternSteps barred() {
        return withText("AbDa");
    }

    /** An act that can not be, and a fault behind it. */
    static LanternSteps barredAndFaulty() {
        return withText("DaA");
    }

    static LanternSteps foggy() {
        LanternSteps x = rich();
        x.fog(true);
        return x;
    }

    static LanternSteps withFullPad() {
        return withText("AbA5B~" + "~".repeat(54));
    }

    static LanternSteps withFullPadAndFault() {
        return withText("AbA5B~" + "~".repeat(53) + "A");
    }

    static LanternSteps withEightSights() {
        LanternSteps x = rich();
        for (int i = 1; i < 8; i++) {
            x.seen(1, 93);
        }
        return x;
    }

    /** Asks for all that a marsh is, and what it was when it was kept; some 380 calls. */
    static long[] look(LanternSteps x) {
        long[] found = new long[NAMES.length];
        int count = lookAtTold(x, found, 0, "");
        count = put(found, count, "fault()", x.fault());
        for (int what = 0; what < 3; what++) {
            count = put(found, count, "judge(" + what + ")", x.judge(what));
        }
        for (int walker = 0; walker < 6; walker++) {
            for (int what = 0; what < 4; what++) {
                count = put(found, count, "behind(" + walker + ", " + what + ")", x.behind(walker, what));
            }
        }
        count = put(found, count, "way(0, 3, 0)", x.way(0, 3, 0));
        count = put(found, count, "whose()", x.whose());
        count = put(found, count, "ask(0)", x.ask(0));
        count = put(found, count, "restore(1)", x.restore(1));
        count = put(found, count, "restore(0)", x.restore(0));
        count = lookAtTold(x, found, count, " of the image");
        count = put(found, count, "whose() of the image", x.whose());
        return Arrays.copyOf(found, count);
    }

    private static int lookAtTold(LanternSteps x, long[] found, int start, String of) {
        int count = start;
        for (int what = 0; what < 4; what++) {
            count = put(found, count, "told(" + what + ")" + of, x.told(what));
        }
        for (int walker = 0; walker < 6; walker++) {
            for (int what = 0; what < 4; what++) {
                int code = 10 * (1 + walker) + what;
                count = put(found, count, "told(" + code + ")" + of, x.told(code));
            }
        }
        for (int code = 100; code < 244; code++) {
            count = put(found, count, "told(" + code + ")" + of, x.told(code));
        }
        return count;
    }

    private static int put(long[] found, int i, String name, long answer) {
        found[i] = answer;
        NAMES[i] = name;
        return i + 1;
    }

    /** That a call answers what is due, and that all is behind it as it is without it. */
    static void changesNothing(Due due, String text, Scene scene, Call call, long want) {
        LanternSteps x = scene.make();
        due.is(text, call.on(x), want);
        sameLook(due, text, x, scene.make());
    }

    static void sameLook(Due due, String text, LanternSteps x, LanternSteps other) {
        long[] got = look(x);
        long[] wanted = look(other);
        due.is(text + ", how much is told", got.length, wanted.length);
        for (int i = 0; i < got.length && i < wanted.length; i++) {
            due.is(text + ", then " + NAMES[i], got[i], wanted[i]);
        }
    }
}
