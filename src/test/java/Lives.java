import java.util.ArrayList;
import java.util.List;
import java.util.function.Supplier;
import java.util.function.ToLongFunction;

/** Objects that lived as told, at the ends of what may be; two of one life are alike in all. */
final class Lives {
    /** 150 bytes, 15 ITEMS: as many CLERKS and MAGNETS as there may be. */
    static final String TEXT = "office;" + "clerk0 0 1;".repeat(7) + "magnet0 9 1;".repeat(3)
            + "hook1 0;hook2 0;hook3 1;days1;";

    private Lives() {
    }

    /** Nobody and nothing is there. */
    static ClerkChains empty() {
        return new ClerkChains();
    }

    /** Three CLERKS, one MAGNET, something of each kind, nothing full. */
    static ClerkChains some() {
        ClerkChains x = new ClerkChains();
        x.clerk(0, 0, 1);
        x.clerk(2, 3, 4);
        x.clerk(5, 9, 2);
        x.magnet(1, 2, 3);
        x.hook(1, 0);
        x.day(2);
        x.told(0, 1, 1, 1);
        x.note(0, 1, 2, 3);
        x.mark(0, 1, 2, 3, 4);
        x.image(1);
        x.slips(0, 9, 1, 3);
        x.unbend(1);
        x.hook(2, 1);
        type(x, "office;clerk 4 7 1;days 3;");
        return x;
    }

    /**
     * As many of each as there may be: seven CLERKS (1 and 2 are ON 0, 3 ON 1, 4 ON 2, 5 and 6 alone),
     * three MAGNETS, 150 bytes, five TOLD, six NOTES, six MARKS, both IMAGES, 8 that may be undone.
     */
    static ClerkChains full() {
        return fullWith(TEXT);
    }

    /** The same, but with another TEXT. */
    static ClerkChains fullWith(String text) {
        ClerkChains x = new ClerkChains();
        for (int c = 0; c < 7; c++) {
            x.clerk(c % 6, 1 + c, 1 + c);
        }
        x.magnet(0, 0, 1);
        x.magnet(3, 5, 5);
        x.magnet(5, 11, 9);
        x.image(0);
        x.hook(1, 0);
        x.hook(2, 0);
        x.hook(3, 1);
        x.day(1);
        x.told(0, 9, 1, 8);
        x.image(1);
        x.hook(4, 3);
        x.day(2);
        x.unbend(4);
        x.day(3);
        x.hook(4, 2);
        x.day(1);
        for (int k = 1; k < 5; k++) {
            x.told(k, 20, 4, k);
        }
        for (int k = 0; k < 6; k++) {
            x.note(k, 9, k, k);
            x.mark(k % 3, 9, k, k, k);
        }
        x.slips(1, 9, 0, 3);
        type(x, text);
        return x;
    }

    /** Seven CLERKS, each but the first ON the one ahead of it. */
    static ClerkChains chain() {
        ClerkChains x = new ClerkChains();
        for (int c = 0; c < 7; c++) {
            x.clerk(2, c, 1);
        }
        for (int c = 1; c < 7; c++) {
            x.hook(c, c - 1);
        }
        return x;
    }

    static void type(ClerkChains x, String text) {
        for (int k = 0; k < text.length(); k++) {
            x.type(text.charAt(k));
        }
    }

    /**
     * A call that is refused for a reason, made of one of two that are alike: STATUS counts it there
     * once, and from then on all that both can be asked is answered alike.
     */
    static void refused(Supplier<ClerkChains> life, String call, ToLongFunction<ClerkChains> made, long want,
            int reason) {
        ClerkChains one = life.get();
        ClerkChains other = life.get();
        Office.due(call, made.applyAsLong(one), want);
        for (int k = 0; k < 3; k++) {
            Office.due("status(" + k + ") behind " + call, one.status(k), other.status(k) + (k == reason ? 1 : 0));
        }
        Office.due("all else behind " + call, answers(one).equals(answers(other)) ? 1 : 0, 1);
    }

    /** A call that is not refused and changes nothing. */
    static void unchanged(Supplier<ClerkChains> life, String call, ToLongFunction<ClerkChains> made, long want) {
        refused(life, call, made, want, -1);
    }

    /** All that it can be asked, STATUS aside; it is used up by that. */
    static List<Long> answers(ClerkChains x) {
        List<Long> all = standing(x);
        for (int i = 0; i < 2; i++) {
            all.add((long) x.from(i));
            all.add(x.digest());
            back(x, all);
        }
        all.add((long) x.read());
        all.add(x.digest());
        all.add((long) x.clear());
        return all;
    }

    /** What stands now, and ahead of all that may be undone, which is undone by that. */
    static List<Long> standing(ClerkChains x) {
        List<Long> all = new ArrayList<>();
        ofNow(x, all);
        back(x, all);
        return all;
    }

    private static void ofNow(ClerkChains x, List<Long> all) {
        all.add(x.digest());
        all.add(x.part(0));
        all.add(x.part(1));
        int[] whole = {x.strings(0), x.strings(1), x.lunch(4), x.free(9), x.lifts(0, 1, -1), x.decades(7, 9)};
        for (int answer : whole) {
            all.add((long) answer);
        }
        for (int c = 0; c < x.count(0); c++) {
            int[] one = {x.of(c, 0), x.of(c, 1), x.of(c, 2), x.of(c, 3), x.of(c, 4), x.felt(c, 9, -1),
                x.felt(c, 9, 0), x.least(c, 0), x.quiet(c, 1), x.string(c, 2), x.string(c, 3), x.then(c, 6),
                x.caught(c), x.found(c), x.is(c), x.look(c)};
            for (int answer : one) {
                all.add((long) answer);
            }
        }
        for (int m = 0; m < x.count(1); m++) {
            all.add((long) x.kinds(m));
            all.add((long) x.ask(m));
        }
    }

    private static void back(ClerkChains x, List<Long> all) {
        for (int k = 0; k < 9; k++) {
            all.add((long) x.undo());
            all.add(x.digest());
        }
    }
}
