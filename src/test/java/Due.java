/** Counts the answers that are not as due, and tells them. */
final class Due {
    private final String title;
    private int wrong;
    private int asked;

    Due(String title) {
        this.title = title;
    }

    void is(String call, long got, long want) {
        asked++;
        if (got != want) {
            wrong++;
            System.out.println(title + ": " + call + " answered " + got + ", due is " + want);
        }
    }

    void holds(String what, boolean does) {
        is(what, does ? 1 : 0, 1);
    }

    /** Says a text on the pad, sign by sign. */
    static void say(LanternSteps x, String text) {
        for (char sign : text.toCharArray()) {
            x.say(sign);
        }
    }

    /** Wipes the pad and says a text. */
    static void sayAnew(LanternSteps x, String text) {
        x.wipe();
        say(x, text);
    }

    void end() {
        System.out.println(title + ": " + asked + " answers, " + wrong + " not as due");
        if (wrong != 0) {
            System.exit(1);
        }
    }
}
