import java.util.Random;

/** Runs of calls by draws, on the class and on the Oracle: all answers are the same, and all that is told. */
public final class OracleTest {
    private static final int RUNS = 2500;
    /** Five calls more may come at once, and 252 at the end: an object is asked 512 times at most. */
    private static final int CALLS = 255;
    private static final int[] FAR_OUT = {Integer.MIN_VALUE, Integer.MIN_VALUE + 1, -100, 1000000, Integer.MAX_VALUE};

    private static final Due due = new Due("OracleTest");
    private final Random random;
    private final LanternSteps x = new LanternSteps();
    private final Oracle o = new Oracle();
    private final int places;
    private final int mostSteps;
    private int walkLight;
    private int calls;

    private OracleTest(int seed) {
        random = new Random(seed);
        places = 2 + random.nextInt(11);
        mostSteps = random.nextBoolean() ? 3 : 99;
        walkLight = random.nextBoolean() ? 30 : 1000;
    }

    public static void main(String[] args) {
        for (int seed = 0; seed < RUNS; seed++) {
            new OracleTest(seed).run(seed);
        }
        due.end();
    }

    private void run(int seed) {
        int first = random.nextInt(2 * places);
        for (int i = 0; i < first; i++) {
            call(0);
        }
        for (int i = 0; i < 1000 && calls < CALLS; i++) {
            call(random.nextInt(34));
        }
        compareAll(seed);
    }

    private void compareAll(int seed) {
        for (int what = -2; what < 250; what++) {
            due.is("seed " + seed + " told(" + what + ")", x.told(what), o.told(what));
        }
    }

    /** Mostly from least to most; now and then beside it, or far out. */
    private int number(int least, int most) {
        int draw = random.nextInt(60);
        if (draw == 0) {
            return least - 1;
        }
        if (draw == 1) {
            return most + 1;
        }
        if (draw == 2) {
            return FAR_OUT[random.nextInt(FAR_OUT.length)];
        }
        return least + random.nextInt(most - least + 1);
    }

    private int place() {
        return random.nextInt(40) == 0 ? number(0, 11) : random.nextInt(places);
    }

    private int walker() {
        return number(0, 5);
    }

    private void is(String call, long got, long want) {
        calls++;
        due.is(call, got, want);
    }

    private void call(int which) {
        int a;
        int b;
        int c;
        int d;
        switch (which) {
            case 0:
                a = place();
                b = place();
                c = random.nextInt(6) == 0 ? 0 : number(0, mostSteps);
                boolean wet = random.nextInt(4) == 0;
                is("plank", x.plank(a, b, c, wet), o.plank(a, b, c, wet));
                break;
            case 1:
                a = walker();
                b = place();
                c = random.nextInt(3) == 0 ? b : place();
                d = number(0, walkLight - 1);
                is("walker", x.walker(a, b, c, d), o.walker(a, b, c, d));
                break;
            case 2:
                a = random.nextInt(3) == 0 ? walker() : -1;
                is("leave", x.leave(a), o.leave(a));
                break;
            case 3:
                boolean fog = random.nextInt(3) == 0;
                is("fog", x.fog(fog), o.fog(fog));
                break;
            case 4:
                a = number(33, 126);
                is("say", x.say(a), o.say(a));
                is("fault", x.fault(), o.fault());
                break;
            case 5:
                is("wipe", x.wipe(), o.wipe());
                break;
            case 6:
                is("fault", x.fault(), o.fault());
                break;
            case 7: case 8: case 9: case 10:
                sayActs();
                break;
            case 11:
                a = number(0, 2);
                is("judge", x.judge(a), o.judge(a));
                break;
            case 12:
                a = walker();
                b = number(0, 3);
                is("behind", x.behind(a, b), o.behind(a, b));
                break;
            case 13:
                a = place();
                is("who", x.who(a), o.who(a));
                break;
            case 14: case 15:
                is("done", x.done(), o.done());
                break;
            default:
                ask(which);
                break;
        }
    }

    private void ask(int which) {
        int a;
        int b;
        int c;
        int d;
        switch (which) {
            case 16:
                a = place();
                b = place();
                c = number(0, 1);
                is("way", x.way(a, b, c), o.way(a, b, c));
                break;
            case 17:
                a = walker();
                is("far", x.far(a), o.far(a));
                break;
            case 18:
                a = walker();
                is("left", x.left(a), o.left(a));
                break;
            case 19:
                a = number(-1, 6);
                is("out", x.out(a), o.out(a));
                break;
            case 20:
                a = place();
                b = number(0, 4095) & (random.nextInt(5) == 0 ? -1 : (1 << places) - 1);
                c = number(0, 1);
                is("round", x.round(a, b, c), o.round(a, b, c));
                break;
            case 21:
                a = place();
                is("more", x.more(a), o.more(a));
                break;
            case 22:
                a = number(-1, 5);
                is("decides", x.decides(a), o.decides(a));
                break;
            case 23:
                a = number(0, 1);
                is("wax", x.wax(a), o.wax(a));
                break;
            case 24:
                a = number(0, 1);
                b = number(0, 1);
                is("post", x.post(a, b), o.post(a, b));
                break;
            case 25:
                a = place();
                is("by", x.by(a), o.by(a));
                break;
            default:
                askFurther(which);
                break;
        }
    }

    private void askFurther(int which) {
        int a;
        int b;
        int c;
        int d;
        switch (which) {
            case 26:
                a = place();
                b = likelyLight(a);
                is("seen", x.seen(a, b), o.seen(a, b));
                break;
            case 27:
                if (random.nextInt(3) == 0) {
                    is("forget", x.forget(), o.forget());
                }
                break;
            case 28:
                is("whose", x.whose(), o.whose());
                break;
            case 29:
                a = number(0, 1);
                is("ask", x.ask(a), o.ask(a));
                break;
            case 30:
                a = walker();
                b = number(0, 10);
                c = number(0, 1);
                d = number(0, 1);
                is("chance", x.chance(a, b, c, d), o.chance(a, b, c, d));
                break;
            case 31:
                a = number(0, 9999);
                b = number(1, 99);
                c = number(0, 2);
                is("year", x.year(a, b, c), o.year(a, b, c));
                break;
            case 32:
                a = number(0, 1);
                is("image", x.image(a), o.image(a));
                break;
            default:
                a = number(0, 1);
                if (random.nextInt(3) == 0) {
                    is("restore", x.restore(a), o.restore(a));
                }
                break;
        }
    }

    /** Some light that a walker would have there, so that sights are often so. */
    private int likelyLight(int place) {
        int walker = random.nextInt(6);
        int light = o.told(10 * (1 + walker) + 2);
        int at = o.told(10 * (1 + walker));
        int costs = o.way(at, place, 0);
        return light >= 0 && costs >= 0 && costs <= light && random.nextInt(5) != 0 ? light - costs : number(0, 999);
    }

    /** Acts that can often be: by planks from where one is, with those who are there. */
    private void sayActs() {
        if (o.fault() != -6 || o.judge(0) >= 0 && random.nextInt(3) != 0) {
            is("wipe", x.wipe(), o.wipe());
        }
        StringBuilder text = new StringBuilder();
        char one = (char) ('A' + random.nextInt(6));
        int at = o.behind(one - 'A', 0);
        int kind = random.nextInt(10);
        if (kind < 5) {
            int to = random.nextInt(places);
            for (int i = 0; i < 20 && at >= 0 && o.way(at, to, 1) != to; i++) {
                to = random.nextInt(places);
            }
            text.append(one).append((char) ('a' + to));
        } else if (kind == 5) {
            text.append('~');
        } else if (kind == 6) {
            text.append(one).append('-');
        } else {
            char other = (char) ('A' + random.nextInt(6));
            for (int i = 0; i < 5 && o.behind(other - 'A', 0) != at; i++) {
                other = (char) ('A' + random.nextInt(6));
            }
            text.append(one).append(kind == 7 ? (char) ('1' + random.nextInt(9)) : '+').append(other);
        }
        for (char sign : text.toString().toCharArray()) {
            is("say", x.say(sign), o.say(sign));
        }
        int what = random.nextInt(3);
        is("judge", x.judge(what), o.judge(what));
    }
}
