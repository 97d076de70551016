import java.util.Random;

/**
 * Holds the class against Model over many seeded runs of calls: offices as they may be, arguments
 * in and around their bounds and far outside, texts well told and spoilt.
 */
public final class RandomRunsTest {
    private static final int RUNS = 1500;
    private static final int CALLS = 500;
    private static final int[] FAR = {Integer.MIN_VALUE, Integer.MAX_VALUE, -1000, 1000, 127, 128, -128, 31, 32, 33};
    private static final String[] WORDS = {"office", "clerk", "magnet", "hook", "days", "offic", "x", "clerks"};

    private final Random random;
    private final ClerkChains real = new ClerkChains();
    private final Model model = new Model();
    private int calls;
    private String shown = "";
    private long got;
    private long want;

    private RandomRunsTest(long seed) {
        random = new Random(seed);
    }

    public static void main(String[] args) {
        int wrong = 0;
        long all = 0;
        for (int run = 0; run < RUNS && wrong < 10; run++) {
            RandomRunsTest test = new RandomRunsTest(run);
            if (!test.agrees()) {
                wrong++;
                System.out.println("run " + run + ", call " + test.calls + ": " + test.shown + " answered "
                        + test.got + ", by the model " + test.want);
            }
            all += test.calls;
        }
        System.out.println(all + " calls, " + wrong + " runs wrong");
        if (wrong != 0) {
            System.exit(1);
        }
    }

    private boolean agrees() {
        int clerks = random.nextInt(8);
        for (int c = 0; c < clerks; c++) {
            if (!step(1)) {
                return false;
            }
        }
        while (calls < CALLS) {
            if (random.nextInt(40) == 0 && !tellsAText()) {
                return false;
            }
            if (!step(pick()) || !sameDigest()) {
                return false;
            }
        }
        return true;
    }

    /** Calls that make the office are taken more often, those that throw it away seldom. */
    private int pick() {
        int which = random.nextInt(100);
        if (which < 4) {
            return 1 + random.nextInt(2);
        }
        if (which < 16) {
            return 6;
        }
        if (which < 22) {
            return 8;
        }
        int any = random.nextInt(37);
        boolean throwsAway = any == 0 || any == 4 || any == 5;
        return throwsAway && random.nextInt(10) != 0 ? 12 : any;
    }

    private boolean sameDigest() {
        if (calls % 3 != 0) {
            return true;
        }
        if (!same("digest()", real.digest(), model.digest())) {
            return false;
        }
        for (int reason = 0; reason < 3; reason++) {
            if (!same("status(" + reason + ")", real.status(reason), model.status(reason))) {
                return false;
            }
        }
        return true;
    }

    private boolean same(String call, long got, long want) {
        this.shown = call;
        this.got = got;
        this.want = want;
        calls++;
        return got == want;
    }

    /** A number of least .. most most of the time, else one near by or far off. */
    private int number(int least, int most) {
        int way = random.nextInt(60);
        if (way == 0) {
            return FAR[random.nextInt(FAR.length)];
        }
        if (way == 1) {
            return random.nextBoolean() ? least - 1 : most + 1;
        }
        return least + random.nextInt(most - least + 1);
    }

    private int someClerk() {
        return number(0, Math.max(0, real.count(0) - 1));
    }

    private int someMagnet() {
        return number(0, Math.max(0, real.count(1) - 1));
    }

    private boolean tellsAText() {
        if (!same("clear()", real.clear(), model.clear())) {
            return false;
        }
        String text = random.nextInt(3) == 0 ? spoilt(someText()) : someText();
        for (int k = 0; k < text.length() && k < 152; k++) {
            char c = text.charAt(k);
            if (real.type(c) != model.type(c)) {
                return same("type(" + (int) c + ")", 0, 1);
            }
        }
        return same("read() of " + text, real.read(), model.read());
    }

    private String someText() {
        StringBuilder text = new StringBuilder(blanks(0)).append("office").append(blanks(0)).append(';');
        int clerks = 0;
        int items = random.nextInt(14);
        for (int k = 0; k < items; k++) {
            int way = clerks < 2 ? 0 : random.nextInt(5);
            text.append(blanks(0));
            if (way <= 1) {
                put(text, "clerk", random.nextInt(6), random.nextInt(12), 1 + random.nextInt(9));
                clerks++;
            } else if (way == 2) {
                put(text, "magnet", random.nextInt(6), random.nextInt(12), 1 + random.nextInt(9));
            } else if (way == 3) {
                put(text, "hook", random.nextInt(clerks), random.nextInt(clerks));
            } else {
                put(text, "days", 1 + random.nextInt(99));
            }
        }
        return text.append(blanks(0)).toString();
    }

    private void put(StringBuilder text, String word, int... numbers) {
        text.append(word);
        int least = 0;
        for (int number : numbers) {
            text.append(blanks(least)).append(number < 10 && random.nextInt(6) == 0 ? "0" : "").append(number);
            least = 1;
        }
        text.append(blanks(0)).append(';');
    }

    private String blanks(int least) {
        int more = random.nextInt(8) == 0 ? random.nextInt(3) : 0;
        return " ".repeat(least + more);
    }

    private String spoilt(String text) {
        StringBuilder s = new StringBuilder(text);
        int at = random.nextInt(s.length());
        switch (random.nextInt(6)) {
            case 0:
                s.setLength(at);
                break;
            case 1:
                s.deleteCharAt(at);
                break;
            case 2:
                s.setCharAt(at, (char) random.nextInt(128));
                break;
            case 3:
                s.insert(at, " " + WORDS[random.nextInt(WORDS.length)] + " ");
                break;
            case 4:
                s.insert(at, random.nextInt(1000));
                break;
            default:
                s.insert(at, ";");
        }
        return s.toString();
    }

    private boolean step(int which) {
        if (which < 12) {
            return stepOfChange(which);
        }
        return which < 22 ? stepOfLook(which) : which < 32 ? stepOfWho(which) : stepOfRest(which);
    }

    private boolean stepOfChange(int which) {
        int a;
        int b;
        int c;
        switch (which) {
            case 0:
                return same("office()", real.office(), model.office());
            case 1:
                a = number(0, 5);
                b = number(0, 11);
                c = random.nextInt(3) == 0 ? number(1, 9) : number(1, 2);
                return same(show("clerk", a, b, c), real.clerk(a, b, c), model.clerk(a, b, c));
            case 2:
                a = number(0, 5);
                b = number(0, 11);
                c = number(1, 9);
                return same(show("magnet", a, b, c), real.magnet(a, b, c), model.magnet(a, b, c));
            case 3:
                a = number(0, 127);
                return same(show("type", a), real.type(a), model.type(a));
            case 4:
                return same("clear()", real.clear(), model.clear());
            case 5:
                return same("read()", real.read(), model.read());
            case 6:
                a = someClerk();
                b = someClerk();
                return same(show("hook", a, b), real.hook(a, b), model.hook(a, b));
            case 7:
                a = someClerk();
                return same(show("unbend", a), real.unbend(a), model.unbend(a));
            case 8:
                a = random.nextInt(3) == 0 ? number(1, 60) : number(1, 3);
                return same(show("day", a), real.day(a), model.day(a));
            case 9:
                return random.nextInt(3) != 0 || same("undo()", real.undo(), model.undo());
            case 10:
                a = number(0, 1);
                return same(show("image", a), real.image(a), model.image(a));
            default:
                a = number(0, 1);
                return random.nextInt(4) != 0 || same(show("from", a), real.from(a), model.from(a));
        }
    }

    private boolean stepOfLook(int which) {
        int a = someClerk();
        int b;
        int c;
        switch (which) {
            case 12:
                b = number(0, 4);
                return same(show("of", a, b), real.of(a, b), model.of(a, b));
            case 13:
                b = number(1, 20);
                c = random.nextInt(3) == 0 ? -1 : someClerk();
                return same(show("felt", a, b, c), real.felt(a, b, c), model.felt(a, b, c));
            case 14:
                b = someClerk();
                return same(show("least", a, b), real.least(a, b), model.least(a, b));
            case 15:
                b = number(0, Math.max(0, (1 << real.count(0)) - 1)) & (random.nextBoolean() ? -1 : random.nextInt());
                return same(show("quiet", a, b), real.quiet(a, b), model.quiet(a, b));
            case 16:
                b = number(0, 3);
                return same(show("string", a, b), real.string(a, b), model.string(a, b));
            case 17:
                b = number(0, 1);
                return same(show("strings", b), real.strings(b), model.strings(b));
            case 18:
                b = number(0, 60);
                return same(show("then", a, b), real.then(a, b), model.then(a, b));
            case 19:
                b = number(1, 7);
                return same(show("lunch", b), real.lunch(b), model.lunch(b));
            case 20:
                b = random.nextBoolean() ? number(1, 63) : number(1, 20);
                return same(show("free", b), real.free(b), model.free(b));
            default:
                return same(show("caught", a), real.caught(a), model.caught(a));
        }
    }

    private boolean stepOfWho(int which) {
        int a = someClerk();
        int m = someMagnet();
        int b = number(1, 20);
        int c;
        int d;
        int e;
        switch (which) {
            case 22:
                c = someClerk();
                d = real.felt(a, b, c);
                if (!same(show("felt", a, b, c), d, model.felt(a, b, c))) {
                    return false;
                }
                d = d < 0 || random.nextInt(3) == 0 ? number(0, 20) : d;
                return same(show("told", a, b, c, d), real.told(a, b, c, d), model.told(a, b, c, d));
            case 23:
                return same(show("found", a), real.found(a), model.found(a));
            case 24:
                c = random.nextBoolean() ? number(0, 99) : number(0, 5);
                d = random.nextInt(4) == 0 ? number(0, 20)
                        : Model.CLERK_KINDS.get(random.nextInt(6)).on(Math.min(20, Math.max(1, b)), Math.max(0, c));
                return same(show("note", a, b, c, d), real.note(a, b, c, d), model.note(a, b, c, d));
            case 25:
                b = number(1, 9);
                c = number(0, 11);
                d = number(0, 99);
                e = random.nextInt(4) == 0 ? number(-40, 40)
                        : Model.MAGNET_KINDS.get(random.nextInt(6)).by(Math.min(9, Math.max(1, b)), Math.min(11, Math.max(0, c)), d);
                return same(show("mark", m, b, c, d, e), real.mark(m, b, c, d, e), model.mark(m, b, c, d, e));
            case 26:
                b = number(0, 2);
                return same(show("forget", b), real.forget(b), model.forget(b));
            case 27:
                return same(show("is", a), real.is(a), model.is(a));
            case 28:
                return same(show("look", a), real.look(a), model.look(a));
            case 29:
                return same(show("kinds", m), real.kinds(m), model.kinds(m));
            case 30:
                return same(show("ask", m), real.ask(m), model.ask(m));
            default:
                c = someClerk();
                d = number(-1, 3);
                return same(show("lifts", a, c, d), real.lifts(a, c, d), model.lifts(a, c, d));
        }
    }

    private boolean stepOfRest(int which) {
        int a = someClerk();
        int b;
        int c;
        int d;
        switch (which) {
            case 32:
                b = number(1, 20);
                c = someClerk();
                d = number(0, 10);
                return same(show("slips", a, b, c, d), real.slips(a, b, c, d), model.slips(a, b, c, d));
            case 33:
                b = number(0, 999999);
                c = number(0, 60);
                return same(show("decades", b, c), real.decades(b, c), model.decades(b, c));
            case 34:
                b = number(0, 1);
                return same(show("part", b), real.part(b), model.part(b));
            case 35:
                b = number(0, 2);
                return same(show("status", b), real.status(b), model.status(b));
            default:
                b = number(0, 9);
                return same(show("count", b), real.count(b), model.count(b));
        }
    }

    private static String show(String name, int... numbers) {
        StringBuilder call = new StringBuilder(name).append('(');
        for (int k = 0; k < numbers.length; k++) {
            call.append(k == 0 ? "" : ", ").append(numbers[k]);
        }
        return call.append(')').toString();
    }
}
