import java.util.ArrayList;
import java.util.List;
import java.util.Set;
import java.util.TreeSet;
import java.util.function.Supplier;
import java.util.function.ToLongFunction;

/**
 * Promises 1 to 39, call by call: each number at its least and its greatest, just below, just above
 * and far outside, alone and with others that are wrong, asked of objects with nobody in them, with
 * some and with as many of each as there may be.
 */
public final class EdgesOfCallsTest {
    private static final int LEAST_INT = Integer.MIN_VALUE, GREATEST_INT = Integer.MAX_VALUE;
    private static final int BAD = ClerkChains.BAD, NO = ClerkChains.NO, FULL = ClerkChains.FULL;
    private static final int NONE = ClerkChains.NONE;
    // An object is good for 512 calls; the longest of these lives takes up 200.
    private static final int MOST_CALLS = 490, CALLS_OF_A_LIFE = 200;
    private static final String NO_REASON = "";

    interface Call {
        long of(ClerkChains x, int[] a);
    }

    /** A promise: its words, its call, how BAD is answered, for what else it may be refused, its bounds. */
    private static final class Promise {
        final String words;
        final String name;
        final long bad;
        final String reasons;
        final int[] bounds;
        final Call call;

        Promise(String words, String name, long bad, String reasons, Call call, int... bounds) {
            this.words = words;
            this.name = name;
            this.bad = bad;
            this.reasons = reasons;
            this.bounds = bounds;
            this.call = call;
        }

        int many() {
            return bounds.length / 2;
        }

        boolean isWrong(int[] a) {
            boolean wrong = false;
            for (int k = 0; k < a.length; k++) {
                wrong |= a[k] < bounds[2 * k] || a[k] > bounds[2 * k + 1];
            }
            boolean unlike = name.equals("hook") || name.equals("lifts");
            return wrong || unlike && a[0] == a[1];
        }

        /** A NO, a FULL of such a number may be an answer like any other. */
        boolean answersAny() {
            return name.equals("string") || name.equals("digest");
        }
    }

    private static final List<Supplier<ClerkChains>> LIVES =
            List.of(Lives::empty, Lives::some, Lives::full, Lives::chain);

    public static void main(String[] args) {
        int promises = of(0, 0).size();
        Office.promise("1 to 39");
        due("promises with numbers of their own, or none", promises, 38);
        for (int p = 0; p < promises; p++) {
            Office.sentence(of(0, 0).get(p).words);
            for (Supplier<ClerkChains> life : LIVES) {
                ClerkChains x = life.get();
                Promise one = of(x.count(0), x.count(1)).get(p);
                allTogether(life, one);
                eachAlone(life, one);
            }
        }
        theFirstOf();
        anOffice();
        days();
        tugs();
        whoWasOnWhom();
        whatThereIs();
        Office.end();
    }

    private static void due(String call, long got, long want) {
        Office.due(call, got, want);
    }

    // ---- the promises as a table

    /** In an office of so many CLERKS and MAGNETS. */
    private static List<Promise> of(int clerks, int magnets) {
        List<Promise> all = new ArrayList<>();
        promisesOfChange(all, clerks - 1);
        promisesOfTugs(all, clerks - 1);
        promisesOfWho(all, clerks - 1, magnets - 1);
        promisesOfWhatThereIs(all);
        return all;
    }

    private static void promisesOfChange(List<Promise> all, int c) {
        all.add(new Promise("All as at first (but for IMAGES, THE TEXT, THE FRACTION, STATUS): how many CLERKS there were.",
                "office", BAD, NO_REASON, (x, a) -> x.office()));
        all.add(new Promise("A CLERK: the number. BAD; FULL: 7.", "clerk", BAD, "FULL",
                (x, a) -> x.clerk(a[0], a[1], a[2]), 0, 5, 0, 11, 1, 9));
        all.add(new Promise("A MAGNET: its number. BAD; FULL: 3.", "magnet", BAD, "FULL",
                (x, a) -> x.magnet(a[0], a[1], a[2]), 0, 5, 0, 11, 1, 9));
        all.add(new Promise("A byte (0 .. 127) comes behind THE TEXT: how many it has. BAD; FULL.", "type", BAD, "FULL",
                (x, a) -> x.type(a[0]), 0, 127));
        all.add(new Promise("THE TEXT is empty: how many it had.", "clear", BAD, NO_REASON, (x, a) -> x.clear()));
        all.add(new Promise("THE OFFICE is read: how many ITEMS. -10 less the FAULT: all stays.", "read", BAD, NO_REASON,
                (x, a) -> x.read()));
        all.add(new Promise("i is ON j from now on: how many are in its STRING. BAD: alike, too; NO: i is ON somebody,"
                + " or can not be ON j; FULL: two are ON j.", "hook", BAD, "NO FULL",
                (x, a) -> x.hook(a[0], a[1]), 0, c, 0, c));
        all.add(new Promise("i is ON nobody from now on: on whom it was. BAD; NO: on nobody.", "unbend", BAD, "NO",
                (x, a) -> x.unbend(a[0]), 0, c));
        all.add(new Promise("n DAYS go by (1 .. 60; together one that may be undone, also if none goes by; at 999 none"
                + " goes by): how many STRINGS went on the last of them (0: none went by). BAD.", "day", BAD, NO_REASON,
                (x, a) -> x.day(a[0]), 1, 60));
        all.add(new Promise("UNDO: the DAY then. NO: none may be.", "undo", BAD, "NO", (x, a) -> x.undo()));
        all.add(new Promise("Of a CLERK: KIND (0), DESK (1), WEIGHT (2), RUST (3), ON (4; NONE). BAD.", "of", BAD,
                NO_REASON, (x, a) -> x.of(a[0], a[1]), 0, c, 0, 4));
    }

    private static void promisesOfTugs(List<Promise> all, int c) {
        all.add(new Promise("FELT by j (NONE: all who FEEL it, as bits). BAD.", "felt", BAD, NO_REASON,
                (x, a) -> x.felt(a[0], a[1], a[2]), 0, c, 1, 20, -1, c));
        all.add(new Promise("LEAST. NONE. BAD.", "least", BAD, NO_REASON,
                (x, a) -> x.least(a[0], a[1]), 0, c, 0, c));
        all.add(new Promise("QUIET. NONE. BAD.", "quiet", BAD, NO_REASON,
                (x, a) -> x.quiet(a[0], a[1]), 0, c, 0, (1 << c + 1) - 1));
        all.add(new Promise("STRING of a CLERK (0; bits), what it weighs (1), LONGEST in it (2), DRAWN (3; may be below 0)."
                + " BAD: -1000.", "string", -1000, NO_REASON, (x, a) -> x.string(a[0], a[1]), 0, c, 0, 3));
        all.add(new Promise("How many STRINGS (0), ENDS (1; bits). BAD.", "strings", BAD, NO_REASON,
                (x, a) -> x.strings(a[0]), 0, 1));
        all.add(new Promise("THEN. BAD.", "then", BAD, NO_REASON, (x, a) -> x.then(a[0], a[1]), 0, c, 0, 60));
        all.add(new Promise("LUNCH. NONE. BAD.", "lunch", BAD, NO_REASON, (x, a) -> x.lunch(a[0]), 1, 7));
        all.add(new Promise("FREE, as bits. NONE. BAD.", "free", BAD, NO_REASON, (x, a) -> x.free(a[0]), 1, 63));
        all.add(new Promise("CAUGHT, as bits: on whom it may be hooked. BAD; NO: it is ON somebody.", "caught", BAD, "NO",
                (x, a) -> x.caught(a[0]), 0, c));
    }

    private static void promisesOfWho(List<Promise> all, int c, int m) {
        all.add(new Promise("TOLD: how many there are. BAD; FULL: 5.", "told", BAD, "FULL",
                (x, a) -> x.told(a[0], a[1], a[2], a[3]), 0, c, 1, 20, 0, c, 0, 20));
        all.add(new Promise("FOUND, as bits. BAD; NO: it is ON somebody.", "found", BAD, "NO",
                (x, a) -> x.found(a[0]), 0, c));
        all.add(new Promise("A NOTE: how many there are. BAD; FULL: 6.", "note", BAD, "FULL",
                (x, a) -> x.note(a[0], a[1], a[2], a[3]), 0, c, 1, 20, 0, 99, 0, 20));
        all.add(new Promise("A MARK: how many there are. BAD; FULL: 6.", "mark", BAD, "FULL",
                (x, a) -> x.mark(a[0], a[1], a[2], a[3], a[4]), 0, m, 1, 9, 0, 11, 0, 99, -40, 40));
        all.add(new Promise("No TOLD ones (0), NOTES (1), MARKS (2): how many there were. BAD.", "forget", BAD, NO_REASON,
                (x, a) -> x.forget(a[0]), 0, 2));
        all.add(new Promise("IS, as bits. BAD.", "is", BAD, NO_REASON, (x, a) -> x.is(a[0]), 0, c));
        all.add(new Promise("LOOK. NONE. BAD.", "look", BAD, NO_REASON, (x, a) -> x.look(a[0]), 0, c));
        all.add(new Promise("WHAT, as bits. BAD.", "kinds", BAD, NO_REASON, (x, a) -> x.kinds(a[0]), 0, m));
        all.add(new Promise("ASK. NONE. BAD.", "ask", BAD, NO_REASON, (x, a) -> x.ask(a[0]), 0, m));
        all.add(new Promise("LIFTS: how many (k = NONE), the k-th. -5: not so many. BAD: -10: alike a, b, k below -1, too.",
                "lifts", -10, NO_REASON, (x, a) -> x.lifts(a[0], a[1], a[2]), 0, c, 0, c, -1, GREATEST_INT));
        all.add(new Promise("SLIPS are THE FRACTION: 1. BAD.", "slips", BAD, NO_REASON,
                (x, a) -> x.slips(a[0], a[1], a[2], a[3]), 0, c, 1, 20, 0, c, 0, 10));
        all.add(new Promise("DECADES. BAD.", "decades", BAD, NO_REASON,
                (x, a) -> x.decades(a[0], a[1]), 0, 999999, 0, 60));
    }

    private static void promisesOfWhatThereIs(List<Promise> all) {
        all.add(new Promise("THE FRACTION: above (0), below (1). BAD.", "part", BAD, NO_REASON,
                (x, a) -> x.part(a[0]), 0, 1));
        all.add(new Promise("An IMAGE is kept: 1. BAD.", "image", BAD, NO_REASON, (x, a) -> x.image(a[0]), 0, 1));
        all.add(new Promise("It goes on from an IMAGE: 1. BAD; NO: none was kept.", "from", BAD, "NO",
                (x, a) -> x.from(a[0]), 0, 1));
        all.add(new Promise("STATUS: BAD (0), NO (1), FULL (2). -1: another what (counts as BAD).", "status", -1, NO_REASON,
                (x, a) -> x.status(a[0]), 0, 2));
        all.add(new Promise("How many: 0 CLERKS, 1 MAGNETS, 2 the DAY, 3 hooks, 4 RUST of all, 5 TOLD, 6 NOTES, 7 MARKS,"
                + " 8 that may be undone, 9 bytes of THE TEXT. BAD.", "count", BAD, NO_REASON,
                (x, a) -> x.count(a[0]), 0, 9));
        all.add(new Promise("h = 1553; then h = 31 h + v for each v: count(0) to count(9)", "digest", BAD, NO_REASON,
                (x, a) -> x.digest()));
    }

    // ---- each number at its ends

    private static int[] ends(int least, int most) {
        Set<Integer> all = new TreeSet<>();
        all.add(LEAST_INT);
        all.add(GREATEST_INT);
        all.add(least - 1);
        all.add(least);
        all.add(most);
        if (most < GREATEST_INT) {
            all.add(most + 1);
        }
        int[] ends = new int[all.size()];
        int k = 0;
        for (int one : all) {
            ends[k++] = one;
        }
        return ends;
    }

    private static String show(String name, int[] a) {
        StringBuilder s = new StringBuilder(name).append('(');
        for (int k = 0; k < a.length; k++) {
            s.append(k > 0 ? ", " : "").append(a[k]);
        }
        return s.append(')').toString();
    }

    /** All ends of all numbers: refused as BAD where one or more are wrong, else not so. */
    private static void allTogether(Supplier<ClerkChains> life, Promise p) {
        int[][] ends = new int[p.many()][];
        int[] at = new int[p.many()];
        for (int k = 0; k < p.many(); k++) {
            ends[k] = ends(p.bounds[2 * k], p.bounds[2 * k + 1]);
        }
        ClerkChains x = life.get();
        int calls = CALLS_OF_A_LIFE;
        boolean more = true;
        while (more) {
            int[] a = new int[p.many()];
            for (int k = 0; k < a.length; k++) {
                a[k] = ends[k][at[k]];
            }
            if (calls > MOST_CALLS) {
                x = life.get();
                calls = CALLS_OF_A_LIFE;
            }
            boolean wrong = p.isWrong(a);
            oneOf(wrong ? x : life.get(), p, a, wrong);
            calls += wrong ? 9 : 0;
            more = next(at, ends);
        }
    }

    private static boolean next(int[] at, int[][] ends) {
        for (int k = 0; k < at.length; k++) {
            at[k]++;
            if (at[k] < ends[k].length) {
                return true;
            }
            at[k] = 0;
        }
        return false;
    }

    private static void oneOf(ClerkChains x, Promise p, int[] a, boolean wrong) {
        String call = show(p.name, a);
        long digest = x.digest();
        int[] ahead = {x.status(0), x.status(1), x.status(2)};
        long answer = p.call.of(x, a);
        int[] more = {x.status(0) - ahead[0], x.status(1) - ahead[1], x.status(2) - ahead[2]};
        if (wrong) {
            due(call, answer, p.bad);
        }
        boolean no = !wrong && p.reasons.contains("NO") && answer == NO;
        boolean full = !wrong && p.reasons.contains("FULL") && answer == FULL;
        due("BAD behind " + call, more[0], wrong ? 1 : 0);
        due("NO behind " + call, more[1], no ? 1 : 0);
        due("FULL behind " + call, more[2], full ? 1 : 0);
        if (wrong || no || full) {
            due("digest() behind " + call, x.digest(), digest);
        } else if (!p.answersAny()) {
            due("refused: " + call, answer == BAD || answer == NO || answer == FULL ? 1 : 0, 0);
        }
    }

    /** Each number wrong alone, all others at their least, also by as much as a lesser type would drop. */
    private static void eachAlone(Supplier<ClerkChains> life, Promise p) {
        for (int k = 0; k < p.many(); k++) {
            int least = p.bounds[2 * k];
            int most = p.bounds[2 * k + 1];
            for (int one : new int[] {LEAST_INT, least - 1, most + 1, GREATEST_INT, least + 256, least + 65536,
                least - 65536, LEAST_INT + Math.max(0, least), most - 256, ~least}) {
                int[] a = new int[p.many()];
                for (int other = 0; other < a.length; other++) {
                    a[other] = p.bounds[2 * other];
                }
                if (p.name.equals("hook") || p.name.equals("lifts")) {
                    a[1] = Math.min(1, p.bounds[3]);
                }
                a[k] = one;
                if (one < least || one > most) {
                    Lives.refused(life, show(p.name, a), x -> p.call.of(x, a), p.bad, Office.BAD);
                }
            }
        }
    }

    // ---- the first of BAD, NO, FULL

    private static void refused(Supplier<ClerkChains> life, String call, ToLongFunction<ClerkChains> made, int answer) {
        Lives.refused(life, call, made, answer, BAD - answer);
    }

    private static void theFirstOf() {
        Office.sentence("Refused, changing nothing but STATUS, the first of: BAD -2 a number is not as told; NO -3 as told; FULL -4");
        // In the fullest: 1 and 2 are ON 0, 3 ON 1, 4 ON 2.
        Supplier<ClerkChains> full = Lives::full;
        refused(full, "an 8th CLERK", x -> x.clerk(5, 11, 9), FULL);
        refused(full, "an 8th, of no KIND", x -> x.clerk(6, 11, 9), BAD);
        refused(full, "an 8th, at no DESK", x -> x.clerk(5, 12, 9), BAD);
        refused(full, "an 8th, of no WEIGHT", x -> x.clerk(5, 11, 10), BAD);
        refused(full, "an 8th, all wrong", x -> x.clerk(GREATEST_INT, LEAST_INT, GREATEST_INT), BAD);
        refused(full, "a 4th MAGNET", x -> x.magnet(5, 11, 9), FULL);
        refused(full, "a 4th, of no KIND", x -> x.magnet(-1, 11, 9), BAD);
        refused(full, "a 4th, at no DESK", x -> x.magnet(5, -1, 9), BAD);
        refused(full, "a 4th, of no POWER", x -> x.magnet(5, 11, 0), BAD);
        refused(full, "a 151st byte", x -> x.type(0), FULL);
        refused(full, "a 151st that is none", x -> x.type(128), BAD);
        refused(full, "a 6th TOLD", x -> x.told(0, 1, 0, 0), FULL);
        refused(full, "a 6th, of a TUG that is none", x -> x.told(0, 21, 0, 0), BAD);
        refused(full, "a 7th NOTE", x -> x.note(0, 1, 0, 0), FULL);
        refused(full, "a 7th, of RUST that is none", x -> x.note(0, 1, 100, 0), BAD);
        refused(full, "a 7th MARK", x -> x.mark(0, 1, 0, 0, 0), FULL);
        refused(full, "a 7th, of a DAY that is none", x -> x.mark(0, 1, 0, 100, 0), BAD);
        refused(full, "a third ON one", x -> x.hook(5, 0), FULL);
        refused(full, "ON somebody, and a third ON one", x -> x.hook(3, 0), NO);
        refused(full, "ON the same again, and a third", x -> x.hook(1, 0), NO);
        refused(full, "ON somebody", x -> x.hook(1, 5), NO);
        refused(full, "a ring", x -> x.hook(0, 4), NO);
        refused(full, "alike, and two are ON it", x -> x.hook(0, 0), BAD);
        refused(full, "alike, and ON somebody", x -> x.hook(1, 1), BAD);
        refused(full, "ON somebody, and on one not there", x -> x.hook(1, 7), BAD);
        refused(full, "one not there, and a third ON one", x -> x.hook(7, 0), BAD);
        refused(full, "caught, ON somebody", x -> x.caught(4), NO);
        refused(full, "caught, not there", x -> x.caught(7), BAD);
        refused(full, "found, ON somebody", x -> x.found(4), NO);
        refused(full, "found, not there", x -> x.found(-1), BAD);
        refused(full, "unbent, ON nobody", x -> x.unbend(0), NO);
        refused(full, "unbent, not there", x -> x.unbend(-1), BAD);
        refused(Lives::empty, "from an IMAGE not kept", x -> x.from(1), NO);
        refused(Lives::empty, "from an IMAGE that is none, not kept", x -> x.from(2), BAD);
        refused(Lives::empty, "nothing to undo", x -> x.undo(), NO);
        // 1 is ON 0, 2 and 3 are ON 1: a ring, and a third ON one.
        Supplier<ClerkChains> fork = () -> Office.ofPlain(5).hooked(1, 0, 2, 1, 3, 1).x;
        refused(fork, "a ring, and a third ON one", x -> x.hook(0, 1), NO);
        refused(fork, "a third ON one", x -> x.hook(4, 1), FULL);
        refused(fork, "alike, ON somebody, two are ON it", x -> x.hook(1, 1), BAD);
    }

    // ---- what each answers at its ends

    private static void anOffice() {
        Office.sentence("As told; nobody is there.");
        ClerkChains x = new ClerkChains();
        due("digest()", x.digest(), digestOf(0, 0, 0, 0, 0, 0, 0, 0, 0, 0, 0, 1));
        for (int reason = 0; reason < 3; reason++) {
            due("status", x.status(reason), 0);
        }

        Office.sentence("An object is used for at most 512 calls after it has been made");
        ClerkChains old = new ClerkChains();
        due("a CLERK", old.clerk(2, 5, 1), 0);
        for (int calls = 2; calls < 512; calls += 3) {
            due("day", old.day(1), 0);
            due("count(8)", old.count(8), 1);
            due("undo()", old.undo(), 0);
        }
        due("the 512th", old.felt(0, 20, NONE), 1);

        Office.sentence("how many CLERKS there were");
        due("none", Lives.empty().office(), 0);
        due("three", Lives.some().office(), 3);
        ClerkChains y = Lives.full();
        due("seven", y.office(), 7);
        due("digest()", y.digest(), digestOf(0, 0, 0, 0, 0, 0, 0, 0, 0, 150, 7, 10));
        due("none any more", y.office(), 0);
        due("there is room again", y.clerk(0, 0, 1), 0);
        due("for a MAGNET, too", y.magnet(0, 0, 1), 0);
        due("for one TOLD", y.told(0, 1, 0, 1), 1);
        due("for a NOTE", y.note(0, 1, 0, 0), 1);
        due("for a MARK", y.mark(0, 1, 0, 0, 0), 1);
        due("none for a byte", y.type(0), FULL);
        due("the IMAGES stay", y.from(0), 1);
        due("the IMAGES stay", y.count(0), 7);

        Office.sentence("THE TEXT is empty: how many it had.");
        due("none", Lives.empty().clear(), 0);
        ClerkChains z = Lives.full();
        due("150", z.clear(), 150);
        due("none any more", z.clear(), 0);
        due("a first", z.type(127), 1);
        due("1", z.clear(), 1);
    }

    private static void days() {
        Office.sentence("how many are in its STRING");
        Office o = Office.ofPlain(7);
        for (int c = 1; c < 7; c++) {
            due("hook", o.x.hook(c, c - 1), c + 1);
        }
        due("unbend", o.x.unbend(3), 2);
        due("three and four", o.x.hook(0, 6), 7);

        Office.sentence("on whom it was");
        Office ends = Office.ofPlain(7).hooked(0, 6, 6, 5);
        due("the greatest", ends.x.unbend(0), 6);
        due("unbend", ends.x.unbend(6), 5);
        due("the least", Office.chain(2).x.unbend(1), 0);

        Office.sentence("together one that may be undone, also if none goes by; at 999 none goes by");
        Office d = Office.ofPlain(1);
        due("60 together", d.x.day(60), 0);
        due("count(8)", d.x.count(8), 1);
        due("undo()", d.x.undo(), 0);
        d.no("no more", () -> d.x.undo());
        Office late = Office.ofPlain(1).untilDay(990).magnet(0, 0, 1);
        due("9 of 60 go by", late.x.day(60), 0);
        due("count(2)", late.x.count(2), 999);
        due("count(8)", late.x.count(8), 1);
        due("none goes by", late.x.day(1), 0);
        due("count(8)", late.x.count(8), 2);
        due("undo()", late.x.undo(), 999);
        due("undo()", late.x.undo(), 990);

        Office.sentence("how many STRINGS went on the last of them (0: none went by)");
        Office still = Office.with(0, 9, 1).magnet(0, 11, 1);
        due("none: it pulls by 0", still.x.day(1), 0);
        Office near = Office.with(0, 10, 1).magnet(0, 11, 1);
        due("it goes on the last of 1", near.x.day(1), 1);
        Office same = Office.with(0, 10, 1).magnet(0, 11, 1);
        due("it does not on the last of 2", same.x.day(2), 0);
        due("yet it went", same.x.of(0, 1), 11);
        Office seven = Office.ofPlain(7).magnet(0, 11, 9);
        due("seven", seven.x.day(1), 7);
        due("all at the MAGNET on the last", seven.x.day(60), 0);
        Office last = Office.ofPlain(7).untilDay(998).magnet(0, 11, 9);
        due("the last that goes by, of 60", last.x.day(60), 7);
        due("none goes by", last.x.day(60), 0);

        Office.sentence("UNDO: the DAY then.");
        Office u = Office.ofPlain(2).untilDay(999).hooked(1, 0);
        due("the greatest", u.x.undo(), 999);
        Office first = Office.chain(2);
        due("the least", first.x.undo(), 0);

        Office.sentence("KIND (0), DESK (1), WEIGHT (2), RUST (3), ON (4; NONE)");
        Office most = Office.with(5, 11, 9, 0, 0, 1).untilDay(99).hooked(0, 1);
        int[][] want = {{5, 11, 9, 99, 1}, {0, 0, 1, 99, NONE}};
        for (int c = 0; c < 2; c++) {
            for (int what = 0; what < 5; what++) {
                due("of(" + c + ", " + what + ")", most.x.of(c, what), want[c][what]);
            }
        }
    }

    private static void tugs() {
        Office.sentence("FELT by j (NONE: all who FEEL it, as bits).");
        Office o = Office.ofKinds(5, 0, 0).hooked(1, 0);
        o.same("not FELT", () -> o.x.felt(0, 20, 2), 0);
        o.same("the most", () -> o.x.felt(0, 10, 1), 20);
        o.same("as bits", () -> o.x.felt(0, 1, NONE), 3);

        Office.sentence("BAD: -1000.");
        Lives.refused(Lives::full, "string(7, 0)", x -> x.string(7, 0), -1000, Office.BAD);
        Lives.refused(Lives::full, "string(0, 4)", x -> x.string(0, 4), -1000, Office.BAD);
        Lives.refused(Lives::full, "both wrong", x -> x.string(-1, -1), -1000, Office.BAD);
        Lives.refused(Lives::empty, "nobody", x -> x.string(0, 3), -1000, Office.BAD);

        Office.sentence("LUNCH. NONE. BAD.");
        for (int longest = 1; longest <= 7; longest++) {
            Office chain = Office.chain(longest);
            int n = longest;
            chain.same("just as many", () -> chain.x.lunch(n), 1);
            if (n > 1) {
                chain.same("one too many", () -> chain.x.lunch(n - 1), NONE);
            }
        }
    }

    private static void whoWasOnWhom() {
        Office.sentence("No TOLD ones (0), NOTES (1), MARKS (2): how many there were.");
        int[] most = {5, 6, 6};
        for (int what = 0; what < 3; what++) {
            due("of none", Lives.empty().forget(what), 0);
            ClerkChains x = Lives.full();
            due("of as many as there may be", x.forget(what), most[what]);
            due("of none any more", x.forget(what), 0);
            for (int other = 0; other < 3; other++) {
                due("count(" + (5 + other) + ")", x.count(5 + other), other == what ? 0 : most[other]);
            }
        }

        Office.sentence("-5: not so many.");
        Office o = Office.with(0, 0, 1, 0, 0, 1);
        o.same("as many as there are", () -> o.x.lifts(0, 1, 2), 10);
        o.same("one too many", () -> o.x.lifts(0, 1, 3), -5);
        o.same("far too many", () -> o.x.lifts(0, 1, GREATEST_INT), -5);

        Office.sentence("BAD: -10: alike a, b, k below -1, too.");
        o.refused(Office.BAD, "alike", () -> o.x.lifts(1, 1, 0), -10);
        o.refused(Office.BAD, "k of -2", () -> o.x.lifts(0, 1, -2), -10);
        o.refused(Office.BAD, "k far below", () -> o.x.lifts(0, 1, LEAST_INT), -10);
        o.refused(Office.BAD, "all wrong", () -> o.x.lifts(7, 7, -2), -10);

        Office.sentence("SLIPS are THE FRACTION: 1.");
        due("also of 0", o.x.slips(0, 1, 1, 10), 1);
        due("also of 1", o.x.slips(0, 1, 0, 0), 1);
    }

    private static void whatThereIs() {
        Office.sentence("It goes on from an IMAGE: 1. BAD; NO: none was kept.");
        ClerkChains x = Lives.empty();
        due("none was kept", x.from(0), NO);
        due("an IMAGE of nobody", x.image(0), 1);
        due("it was kept", x.from(0), 1);
        due("none was kept there", x.from(1), NO);
        due("status(1)", x.status(1), 2);

        Office.sentence("-1: another what (counts as BAD)");
        for (int what : new int[] {-1, 3, LEAST_INT, GREATEST_INT}) {
            Lives.refused(Lives::full, "status(" + what + ")", y -> y.status(what), -1, Office.BAD);
        }

        Office.sentence("8 that may be undone, 9 bytes of THE TEXT");
        int[][] counts = {{0, 0, 0, 0, 0, 0, 0, 0, 0, 0}, {3, 1, 2, 1, 6, 1, 1, 1, 4, 26},
            {7, 3, 7, 4, -1, 5, 6, 6, 8, 150}};
        for (int life = 0; life < 3; life++) {
            ClerkChains y = LIVES.get(life).get();
            for (int what = 0; what < 10; what++) {
                if (counts[life][what] >= 0) {
                    due("count(" + what + ")", y.count(what), counts[life][what]);
                }
            }
        }

        Office.sentence("count(0) to count(9); of CLERKS KIND, DESK, WEIGHT, RUST, ON (NONE: -1); of MAGNETS KIND, DESK,"
                + " POWER; of TOLD a, t, b, x; of NOTES i, t, u, x; of MARKS m, p, f, d, x; THE FRACTION.");
        due("of nothing", Lives.empty().digest(), digestOf(0, 0, 0, 0, 0, 0, 0, 0, 0, 0, 0, 1));
        // 8 to the right and 10 to the left draw a STRING that weighs 5: it stood on both DAYS.
        due("of some", Lives.some().digest(), digestOf(3, 1, 2, 1, 6, 1, 1, 1, 4, 26,
                0, 0, 1, 2, -1, 2, 3, 4, 2, -1, 5, 9, 2, 2, 1, 1, 2, 3, 0, 1, 1, 1, 0, 1, 2, 3, 0, 1, 2, 3, 4, 7, 10));
        digestOfTheMost();
    }

    /** Each part of it that there may be as many of, at its ends. */
    private static void digestOfTheMost() {
        ClerkChains x = new ClerkChains();
        List<Long> all = new ArrayList<>(List.of(7L, 3L, 0L, 1L, 0L, 5L, 6L, 6L, 1L, 1L));
        for (int c = 0; c < 7; c++) {
            x.clerk(c == 0 ? 0 : 5, 11 - c, 9);
            all.addAll(List.of(c == 0 ? 0L : 5L, 11L - c, 9L, 0L, c == 0 ? 6L : -1L));
        }
        for (int m = 0; m < 3; m++) {
            x.magnet(5, 0, 9 - m);
            all.addAll(List.of(5L, 0L, 9L - m));
        }
        x.hook(0, 6);
        for (int k = 0; k < 5; k++) {
            x.told(6, 20, k, 20 - k);
            all.addAll(List.of(6L, 20L, (long) k, 20L - k));
        }
        for (int k = 0; k < 6; k++) {
            x.note(k, 20, 99, 20);
            all.addAll(List.of((long) k, 20L, 99L, 20L));
        }
        for (int k = 0; k < 6; k++) {
            x.mark(2, 9, 11, 99, k - 40);
            all.addAll(List.of(2L, 9L, 11L, 99L, k - 40L));
        }
        x.type(0);
        x.slips(0, 20, 6, 1);
        all.addAll(List.of(9L, 10L));
        long[] values = new long[all.size()];
        for (int k = 0; k < values.length; k++) {
            values[k] = all.get(k);
        }
        due("of the most", x.digest(), digestOf(values));
    }

    private static long digestOf(long... values) {
        long h = 1553;
        for (long v : values) {
            h = 31 * h + v;
        }
        return h;
    }
}
