import java.math.BigInteger;
import java.util.ArrayList;
import java.util.List;

/** The edges that the document's second part names: a test for each sentence. */
public final class EdgesOfAnswersTest {
    private static final int LEAST_INT = Integer.MIN_VALUE, GREATEST_INT = Integer.MAX_VALUE;
    private static final int[] FAR = {LEAST_INT, GREATEST_INT};
    private static final int NONE = ClerkChains.NONE;

    public static void main(String[] args) {
        beyondTheLastDay();
        whoFeels();
        least();
        quiet();
        strings();
        then();
        lunch();
        free();
        caught();
        told();
        found();
        notes();
        look();
        marks();
        ask();
        lifts();
        slips();
        decades();
        tugsOfDecades();
        undo();
        undoOfSeven();
        images();
        status();
        fraction();
        Office.end();
    }

    private static void due(String call, long got, long want) {
        Office.due(call, got, want);
    }

    /**
     * A weight of 1 at desk 5, to and fro: on even DAYS a COLD one (6 at a distance of 6) is stronger
     * than a PLAIN one of power 4 (3 at a distance of 5), on odd DAYS that one alone pulls.
     */
    private static Office toAndFro(int day) {
        return Office.with(0, 5, 1).untilDay(day).magnet(3, 11, 9).magnet(0, 0, 4);
    }

    private static void beyondTheLastDay() {
        Office.sentence("(Nothing is changed by these; DAYS go beyond 999 in them.)");
        Office o = toAndFro(998);
        int[] desks = {5, 6, 5, 6, 5};
        for (int m = 0; m < desks.length; m++) {
            int days = m;
            o.same("then(0, " + m + ") on day 998", () -> o.x.then(0, days), desks[m]);
        }
        Office last = toAndFro(999);
        int[] lastDesks = {5, 4, 5, 4, 5};
        for (int m = 0; m < lastDesks.length; m++) {
            int days = m;
            last.same("then(0, " + m + ") on day 999", () -> last.x.then(0, days), lastDesks[m]);
        }
        last.same("sixty days from day 999", () -> last.x.then(0, 60), 5);
        due("yet no DAY goes by", last.x.day(1), 0);

        // With like RUST and an odd number each, DECADES from DAY 999 are as those from DAY 997.
        int unlike = 0;
        for (int seed = 0; seed < 200; seed++) {
            Office late = rustyOnes(999);
            int s = seed * 4999;
            int all = rustyOnes(997).x.decades(s, 60);
            late.same("decades(" + s + ", 60) on day 999", () -> late.x.decades(s, 60), all);
            Office undrawn = Office.ofKinds(1, 1, 3, 1).untilDay(999).chained(4);
            unlike += undrawn.x.decades(s, 60) != all ? 1 : 0;
        }
        due("some are unlike those of a day that stands", unlike > 50 ? 1 : 0, 1);
    }

    private static Office rustyOnes(int day) {
        return Office.ofKinds(1, 1, 3, 1).untilDay(day).chained(4).magnet(3, 11, 9).magnet(0, 0, 3);
    }

    // ---- who FEELS it

    private static void whoFeels() {
        Office.sentence("FELT by j of a TUG t at i; all who FEEL it (bits).");
        Office seven = Office.ofKinds(2, 2, 2, 2, 2, 2, 2).chained(7);
        seven.same("all of seven, of the least TUG", () -> seven.x.felt(3, 1, -1), 127);
        seven.same("by the first", () -> seven.x.felt(6, 20, 0), 20);
        seven.same("by the last", () -> seven.x.felt(0, 1, 6), 1);
        seven.bad("by an 8th", () -> seven.x.felt(0, 1, 7));
        seven.bad("at an 8th", () -> seven.x.felt(7, 1, 0));
        seven.bad("by one below NONE", () -> seven.x.felt(0, 1, -2));
        seven.bad("at NONE", () -> seven.x.felt(-1, 1, -1));
        Office alone = Office.ofPlain(7);
        for (int c = 0; c < 7; c++) {
            int who = c;
            alone.same("alone", () -> alone.x.felt(who, 20, NONE), 1 << c);
        }
        Office none = new Office();
        none.bad("nobody is there", () -> none.x.felt(0, 1, NONE));
    }

    private static void least() {
        Office.sentence("LEAST: the least TUG (1 .. 20) at i that j FEELS; none.");
        // With RUST of 4: 20 becomes 19, 7, 1; 19 becomes 18, 6, none; of 1 a PLAIN one lets none go on.
        Office o = Office.ofKinds(0, 3, 3, 0, 0).untilDay(4).chained(5);
        o.same("itself", () -> o.x.least(0, 0), 1);
        o.same("the next", () -> o.x.least(0, 1), 2);
        o.same("the greatest TUG", () -> o.x.least(0, 3), 20);
        o.same("20 is FELT", () -> o.x.felt(0, 20, 3), 1);
        o.same("19 is not", () -> o.x.felt(0, 19, 3), 0);
        o.same("not of the greatest", () -> o.x.least(0, 4), NONE);
        Office apart = Office.ofPlain(2);
        apart.same("another STRING", () -> apart.x.least(0, 1), NONE);
        Office copper = Office.ofKinds(4, 0).chained(2);
        copper.same("5 of a COPPER one", () -> copper.x.least(0, 1), 5);
    }

    private static void quiet() {
        Office.sentence("QUIET: a CLERK and the least TUG at it that j FEELS and nobody of those told (bits): "
                + "of all the least TUG, of like ones the first CLERK: 100 t and the CLERK; none.");
        Office chain = Office.ofKinds(2, 2, 2, 2, 2, 2, 2).chained(7);
        chain.same("of like ones the first", () -> chain.x.quiet(6, 0), 100);
        chain.same("all FEEL it", () -> chain.x.quiet(6, 1), NONE);
        chain.same("one told is itself", () -> chain.x.quiet(0, 1), NONE);
        chain.same("all are told", () -> chain.x.quiet(3, 127), NONE);
        chain.bad("more than seven are told", () -> chain.x.quiet(3, 128));
        chain.bad("less than none are told", () -> chain.x.quiet(3, -1));
        Office alone = Office.ofPlain(7);
        alone.same("the last", () -> alone.x.quiet(6, 0), 106);
        alone.same("the last, all others told", () -> alone.x.quiet(6, 63), 106);
        // A TUG of 1 at the MINISTER 0 reaches 2 over 1; at the BRIGHT 1 it ends at the PLAIN 2, at
        // that it ends there. 3 is behind it.
        Office o = Office.ofKinds(5, 2, 0, 0).chained(4);
        o.same("nobody told: the first", () -> o.x.quiet(0, 0), 100);
        o.same("3 told: not at 0", () -> o.x.quiet(0, 8), 101);
        o.same("2 told: at none", () -> o.x.quiet(0, 4), NONE);
        Office three = Office.ofPlain(3);
        three.same("bits of all there are", () -> three.x.quiet(0, 6), 100);
        three.bad("one told is not there", () -> three.x.quiet(0, 8));
        three.bad("one told is not there", () -> three.x.quiet(0, 1 << 30));
    }

    // ---- STRINGS

    private static int longest(int many, int... hooks) {
        Office o = Office.ofPlain(many).hooked(hooks);
        int longest = o.x.string(0, 2);
        for (int c = 0; c < many; c++) {
            if ((o.x.string(0, 0) >> c & 1) != 0) {
                due("of each in it", o.x.string(c, 2), longest);
            }
        }
        return longest;
    }

    private static void strings() {
        Office.sentence("LONGEST: the most CLERKS one behind another (by hooks, either way) in a STRING");
        due("one alone", longest(1), 1);
        due("one of two alone", longest(2), 1);
        due("two", longest(2, 1, 0), 2);
        due("three in a row", longest(3, 1, 0, 2, 1), 3);
        due("two ON one", longest(3, 1, 0, 2, 0), 3);
        due("two ON one that is ON one", longest(4, 1, 0, 2, 1, 3, 1), 3);
        due("three and three ON one", longest(7, 1, 0, 2, 1, 3, 2, 4, 0, 5, 4, 6, 5), 7);
        due("two ON each of two ON one", longest(7, 1, 0, 2, 0, 3, 1, 4, 1, 5, 2, 6, 2), 5);
        due("seven in a row", longest(7, 1, 0, 2, 1, 3, 2, 4, 3, 5, 4, 6, 5), 7);
        due("not over the one ON nobody", longest(7, 1, 0, 2, 1, 3, 2, 4, 3, 5, 1, 6, 5), 6);

        Office.sentence("ENDS: CLERKS (bits) with one hook or none.");
        // 0 has one hook, 1 three, 2 one, 3 two, 4 one, 5 none.
        Office o = Office.ofPlain(6).hooked(1, 0, 2, 1, 3, 1, 4, 3);
        o.same("none, one, two, three hooks", () -> o.x.strings(1), 1 + 4 + 16 + 32);
        Office seven = Office.ofPlain(7);
        seven.same("seven alone", () -> seven.x.strings(1), 127);
        seven.chained(7);
        seven.same("seven in a row", () -> seven.x.strings(1), 1 + 64);
        Office fork = Office.ofPlain(3).hooked(1, 0, 2, 0);
        fork.same("two hooks, ON nobody", () -> fork.x.strings(1), 2 + 4);
        Office none = new Office();
        none.same("nobody", () -> none.x.strings(1), 0);

        Office.sentence("how many STRINGS there are");
        none.same("none", () -> none.x.strings(0), 0);
        seven.same("one", () -> seven.x.strings(0), 1);
        due("seven, one alone", Office.ofPlain(7).chained(6).x.strings(0), 2);
        due("seven", Office.ofPlain(7).x.strings(0), 7);

        Office.sentence("what it weighs");
        Office light = Office.with(0, 0, 1);
        light.same("the least", () -> light.x.string(0, 1), 1);
        Office heavy = Office.with(0, 0, 9, 0, 0, 9, 0, 0, 9, 0, 0, 9, 0, 0, 9, 0, 0, 9, 0, 0, 9).chained(7);
        heavy.same("the greatest", () -> heavy.x.string(6, 1), 63);

        Office.sentence("DRAWN: how a STRING (of a CLERK) is drawn today (below 0: left).");
        Office right = Office.chain(7).magnet(5, 6, 9).magnet(5, 6, 9).magnet(5, 6, 9);
        right.same("the most to the right: 21 times 37", () -> right.x.string(0, 3), 777);
        Office left = Office.chain(7).magnet(5, 4, 9).magnet(5, 4, 9).magnet(5, 4, 9);
        left.same("the most to the left", () -> left.x.string(6, 3), -777);
        Office by1 = Office.with(0, 5, 9).magnet(0, 4, 1);
        by1.same("by 1 to the left: no refusal", () -> by1.x.string(0, 3), -1);
        Office cold = Office.with(0, 5, 9).magnet(3, 6, 1);
        cold.same("today is even", () -> cold.x.string(0, 3), 1);
        cold.untilDay(1);
        cold.same("today is odd", () -> cold.x.string(0, 3), 0);
        Office still = Office.with(0, 5, 9);
        still.same("no MAGNET", () -> still.x.string(0, 3), 0);
    }

    private static void then() {
        Office.sentence("THEN: DESK of a CLERK behind m (0 .. 60) DAYS.");
        Office o = toAndFro(0);
        o.bad("-1", () -> o.x.then(0, -1));
        o.bad("61", () -> o.x.then(0, 61));
        for (int far : FAR) {
            o.bad("far outside", () -> o.x.then(0, far));
        }
        o.same("0", () -> o.x.then(0, 0), 5);
        o.same("1", () -> o.x.then(0, 1), 6);
        o.same("59", () -> o.x.then(0, 59), 6);
        o.same("60", () -> o.x.then(0, 60), 5);
        Office walk = Office.with(0, 0, 1).magnet(0, 11, 9);
        walk.same("short of the wall", () -> walk.x.then(0, 10), 10);
        walk.same("at the wall", () -> walk.x.then(0, 11), 11);
        walk.same("no further", () -> walk.x.then(0, 12), 11);
        due("it is still where it was", walk.x.of(0, 1), 0);
    }

    // ---- LUNCH and FREE

    private static void lunch() {
        Office.sentence("LUNCH: STRINGS sit whole at tables for n (1 .. 7) CLERKS: the fewest tables; none: one has more CLERKS.");
        Office o = new Office();
        o.bad("0", () -> o.x.lunch(0));
        o.bad("8", () -> o.x.lunch(8));
        for (int far : FAR) {
            o.bad("far outside", () -> o.x.lunch(far));
        }
        o.same("nobody, at the least", () -> o.x.lunch(1), 0);
        o.same("nobody, at the greatest", () -> o.x.lunch(7), 0);
        for (int many = 1; many <= 7; many++) {
            Office chain = Office.chain(many);
            for (int n = 1; n <= 7; n++) {
                int table = n;
                chain.same("a chain of " + many + " at " + n, () -> chain.x.lunch(table), many > n ? NONE : 1);
            }
            Office ones = Office.ofPlain(many);
            for (int n = 1; n <= 7; n++) {
                int table = n;
                ones.same(many + " alone at " + n, () -> ones.x.lunch(table), (many + n - 1) / n);
            }
        }
        parties(new ArrayList<>(), 7, 7);
    }

    /** All sizes of STRINGS that seven CLERKS or less may be in, each of the greatest ahead. */
    private static void parties(List<Integer> sizes, int left, int most) {
        Office o = new Office();
        for (int size : sizes) {
            for (int k = 0; k < size; k++) {
                int c = o.x.clerk(0, 0, 1);
                if (k > 0) {
                    o.x.hook(c, c - 1);
                }
            }
        }
        for (int n = 1; n <= 7; n++) {
            due("lunch(" + n + ") of " + sizes, o.x.lunch(n), tables(sizes, new int[7], 0, n));
        }
        for (int size = 1; size <= Math.min(left, most); size++) {
            sizes.add(size);
            parties(sizes, left - size, size);
            sizes.remove(sizes.size() - 1);
        }
    }

    /** Puts each party at each of seven tables in turn. */
    private static int tables(List<Integer> sizes, int[] sit, int party, int n) {
        if (party == sizes.size()) {
            int used = 0;
            for (int one : sit) {
                used += one > 0 ? 1 : 0;
            }
            return used;
        }
        int best = NONE;
        for (int t = 0; t < 7; t++) {
            if (sit[t] + sizes.get(party) <= n) {
                sit[t] += sizes.get(party);
                int all = tables(sizes, sit, party + 1, n);
                sit[t] -= sizes.get(party);
                best = all != NONE && (best == NONE || all < best) ? all : best;
                if (sit[t] == 0) {
                    break;
                }
            }
        }
        return best;
    }

    private static void free() {
        Office.sentence("so that no STRING weighs more than w (1 .. 63); none.");
        Office o = Office.with(0, 0, 9, 0, 0, 9, 0, 0, 9, 0, 0, 9, 0, 0, 9, 0, 0, 9, 0, 0, 9).chained(7);
        o.bad("0", () -> o.x.free(0));
        o.bad("64", () -> o.x.free(64));
        for (int far : FAR) {
            o.bad("far outside", () -> o.x.free(far));
        }
        o.same("as much as it weighs", () -> o.x.free(63), 0);
        o.same("1 less", () -> o.x.free(62), 2);
        o.same("each as heavy as one", () -> o.x.free(9), 126);
        o.same("1 less than one weighs", () -> o.x.free(8), NONE);
        o.same("the least", () -> o.x.free(1), NONE);
        Office one = Office.with(0, 0, 1);
        one.same("1, of the least", () -> one.x.free(1), 0);
        Office nobody = new Office();
        nobody.same("nobody, at the least", () -> nobody.x.free(1), 0);
        nobody.same("nobody, at the greatest", () -> nobody.x.free(63), 0);

        Office.sentence("FREE: the fewest CLERKS (bits; of like ones the least) each unbent from the one it is ON");
        // Of seven of weight 9 in a row: by bits, those unbent begin a STRING of their own.
        int[][] rows = {{54, 2}, {53, 4}, {45, 4}, {44, 8}, {36, 8}, {35, 18}, {27, 18}, {26, 42}, {18, 42}, {17, 126}};
        for (int[] row : rows) {
            o.same("free(" + row[0] + ")", () -> o.x.free(row[0]), row[1]);
        }
        // 0 is ON 6: the bit of 0 is the least one.
        Office first = Office.with(0, 0, 5, 0, 0, 5, 0, 0, 5, 0, 0, 5, 0, 0, 5, 0, 0, 5, 0, 0, 5).hooked(0, 6);
        first.same("the first of all", () -> first.x.free(9), 1);
        first.same("nobody need be", () -> first.x.free(10), 0);
    }

    private static void caught() {
        Office.sentence("CAUGHT: on whom a CLERK that is ON nobody could be hooked (bits).");
        Office seven = Office.ofPlain(7);
        for (int c = 0; c < 7; c++) {
            int who = c;
            seven.same("on all others", () -> seven.x.caught(who), 127 - (1 << c));
        }
        Office one = Office.ofPlain(1);
        one.same("on nobody", () -> one.x.caught(0), 0);
        one.bad("one who is not there", () -> one.x.caught(1));
        // 1 and 2 are ON 0, 3 and 4 ON 1: neither 0 nor 1 has room for 5.
        Office full = Office.ofPlain(6).hooked(1, 0, 2, 0, 3, 1, 4, 1);
        full.same("two are ON two of them", () -> full.x.caught(5), 4 + 8 + 16);
        full.same("all others are ON it", () -> full.x.caught(0), 32);
        for (int c = 1; c < 5; c++) {
            int who = c;
            full.no("it is ON somebody", () -> full.x.caught(who));
        }
        for (int j = 0; j < 6; j++) {
            Office again = Office.ofPlain(6).hooked(1, 0, 2, 0, 3, 1, 4, 1);
            boolean can = (4 + 8 + 16 >> j & 1) != 0;
            due("hook(5, " + j + ")", again.x.hook(5, j), can ? 6 : j == 5 ? ClerkChains.BAD : ClerkChains.FULL);
        }
    }

    // ---- TOLD and FOUND

    private static void told() {
        Office.sentence("TOLD 0 .. 4, as they come: a TUG t at CLERK a was FELT as x (0 .. 20) by CLERK b.");
        Office o = Office.ofPlain(1);
        due("none", o.x.count(5), 0);
        o.bad("x of -1", () -> o.x.told(0, 1, 0, -1));
        o.bad("x of 21", () -> o.x.told(0, 1, 0, 21));
        o.bad("t of 0", () -> o.x.told(0, 0, 0, 0));
        o.bad("t of 21", () -> o.x.told(0, 21, 0, 0));
        due("the least", o.x.told(0, 1, 0, 0), 1);
        due("the greatest", o.x.told(0, 20, 0, 20), 2);
        for (int k = 3; k <= 5; k++) {
            due("told", o.x.told(0, 1, 0, 1), k);
        }
        o.full("a 6th", () -> o.x.told(0, 1, 0, 1));
        o.bad("a 6th with x of 21", () -> o.x.told(0, 1, 0, 21));
        due("forget(0)", o.x.forget(0), 5);
        due("there is room again", o.x.told(0, 1, 0, 1), 1);
    }

    private static void found() {
        Office.sentence("(NO: it is ON one)");
        Office on = Office.chain(7);
        for (int c = 1; c < 7; c++) {
            int who = c;
            on.no("found(" + c + ")", () -> on.x.found(who));
        }
        on.same("the one that is ON nobody", () -> on.x.found(0), 128);

        Office.sentence("(bits 0 .. 6, of those on whom it could be hooked; bit 7: on nobody)");
        Office seven = Office.ofPlain(7);
        for (int c = 0; c < 7; c++) {
            int who = c;
            seven.same("nothing is told: found(" + c + ")", () -> seven.x.found(who), 255 - (1 << c));
        }
        due("told", seven.x.told(0, 20, 6, 19), 1);
        seven.same("0 ON 6", () -> seven.x.found(0), 64);
        seven.same("6 ON 0", () -> seven.x.found(6), 1);
        seven.same("no other one", () -> seven.x.found(3), 0);
        seven.x.forget(0);
        due("told", seven.x.told(0, 20, 6, 0), 1);
        seven.same("0 ON any but 6", () -> seven.x.found(0), 255 - 1 - 64);
        seven.same("6 ON any but 0", () -> seven.x.found(6), 255 - 64 - 1);

        Office.sentence("so that all TOLD are so");
        // 0 and 1 alone; of five TOLD the last is never so.
        Office five = Office.ofPlain(2);
        for (int k = 1; k <= 4; k++) {
            due("told", five.x.told(0, 10 + k, 1, 9 + k), k);
        }
        five.same("four are so, 0 ON 1", () -> five.x.found(0), 2);
        due("told", five.x.told(0, 5, 1, 5), 5);
        five.same("one of five is not", () -> five.x.found(0), 0);
        Office first = Office.ofPlain(2);
        due("told", first.x.told(0, 5, 1, 5), 1);
        due("told", first.x.told(0, 5, 1, 4), 2);
        first.same("the first of two is not", () -> first.x.found(0), 0);
    }

    // ---- NOTES

    private static void notes() {
        Office.sentence("NOTES 0 .. 5, as they come: of a TUG t a CLERK with RUST u (0 .. 99) let x (0 .. 20) go on.");
        Office o = Office.ofPlain(1);
        due("none", o.x.count(6), 0);
        int[][] wrong = {{0, 0, 0}, {21, 0, 0}, {1, -1, 0}, {1, 100, 0}, {1, 0, -1}, {1, 0, 21}};
        for (int[] w : wrong) {
            o.bad("note", () -> o.x.note(0, w[0], w[1], w[2]));
        }
        due("the least", o.x.note(0, 1, 0, 0), 1);
        due("the greatest", o.x.note(0, 20, 99, 20), 2);
        for (int k = 3; k <= 6; k++) {
            due("note", o.x.note(0, 1, 0, 0), k);
        }
        o.full("a 7th", () -> o.x.note(0, 1, 0, 0));
        o.bad("a 7th with u of 100", () -> o.x.note(0, 1, 100, 0));
        due("forget(1)", o.x.forget(1), 6);
        due("there is room again", o.x.note(0, 1, 0, 0), 1);

        Office.sentence("IS: KINDS (bits) by which all NOTES of one are so.");
        Office two = Office.ofPlain(2);
        two.same("no NOTES: all", () -> two.x.is(0), 63);
        for (int k = 0; k < 5; k++) {
            two.x.note(0, 9, 0, 8);
        }
        two.same("PLAIN, RUSTY, COPPER", () -> two.x.is(0), 1 + 2 + 16);
        two.x.note(0, 9, 1, 7);
        two.same("the last of six: RUSTY", () -> two.x.is(0), 2);
        two.same("of the other none are told", () -> two.x.is(1), 63);
        allNotes();
    }

    /** Every NOTE that can be told, by the Model's KINDS; and what is looked at next. */
    private static void allNotes() {
        int calls = 600;
        ClerkChains x = null;
        Model model = null;
        for (int t = 1; t <= 20; t++) {
            for (int u = 0; u <= 99; u += u < 9 ? 1 : 90) {
                for (int v = 0; v <= 20; v++) {
                    if (calls > 500) {
                        calls = 0;
                        x = new ClerkChains();
                        model = new Model();
                        x.clerk(0, 0, 1);
                        model.clerk(0, 0, 1);
                    }
                    x.note(0, t, u, v);
                    model.note(0, t, u, v);
                    String told = " behind a note of " + t + ", " + u + ", " + v;
                    due("is(0)" + told, x.is(0), model.is(0));
                    due("look(0)" + told, x.look(0), model.look(0));
                    x.forget(1);
                    model.forget(1);
                    calls += 4;
                }
            }
        }
    }

    private static void look() {
        Office.sentence("by which the most of these KINDS that let go alike are fewest; of like ones the least; none: no KIND.");
        Office o = Office.ofPlain(1);
        // At 4 and 1: 3, 2, 4, 1, 0 and 8; whatever is less has two that are alike.
        o.same("all KINDS", () -> o.x.look(0), 41);
        o.x.note(0, 20, 0, 20);
        // BRIGHT lets 1 go on of 1, a MINISTER 2.
        o.same("two KINDS, unlike at the least", () -> o.x.look(0), 10);
        o.x.note(0, 1, 0, 1);
        o.same("one KIND", () -> o.x.look(0), 10);
        o.x.note(0, 1, 0, 2);
        o.same("no KIND", () -> o.x.look(0), NONE);
        due("forget(1)", o.x.forget(1), 3);
        o.x.note(0, 5, 0, 4);
        o.x.note(0, 5, 9, 4);
        // PLAIN and COPPER: of 1 both let nothing go on, of 2 PLAIN 1.
        o.same("two KINDS, alike at 10 .. 19", () -> o.x.look(0), 20);
        due("forget(1)", o.x.forget(1), 2);
        o.x.note(0, 1, 0, 0);
        o.x.note(0, 9, 4, 4);
        // RUSTY alone: PLAIN would be 8, BENT 2, COPPER 8.
        o.same("one KIND", () -> o.x.look(0), 10);

        Office.sentence("LOOK: 10 t and u (t 1 .. 20, u 0 .. 9)");
        int[][] rows = {{0, 0, 0, 41}, {20, 0, 20, 10}, {9, 0, 8, 31}, {9, 4, 8, 20}, {1, 0, 0, 41}, {2, 0, 1, 21}};
        for (int[] row : rows) {
            Office one = Office.ofPlain(1);
            if (row[0] > 0) {
                due("note", one.x.note(0, row[0], row[1], row[2]), 1);
            }
            one.same("behind a note of " + row[0] + ", " + row[1] + ", " + row[2], () -> one.x.look(0), row[3]);
        }
    }

    // ---- MARKS

    private static void marks() {
        Office.sentence("a MAGNET of POWER p (1 .. 9), so FAR (f 0 .. 11), on DAY d (0 .. 99) PULLED by x (-40 .. 40).");
        Office o = new Office().magnet(0, 0, 1);
        int[][] wrong = {{0, 0, 0, 0}, {10, 0, 0, 0}, {1, -1, 0, 0}, {1, 12, 0, 0}, {1, 0, -1, 0}, {1, 0, 100, 0},
            {1, 0, 0, -41}, {1, 0, 0, 41}};
        for (int[] w : wrong) {
            o.bad("mark", () -> o.x.mark(0, w[0], w[1], w[2], w[3]));
        }
        due("none", o.x.count(7), 0);
        due("the least", o.x.mark(0, 1, 0, 0, -40), 1);
        due("the greatest", o.x.mark(0, 9, 11, 99, 40), 2);

        Office.sentence("MARKS 0 .. 5, as they come");
        for (int k = 3; k <= 6; k++) {
            due("mark", o.x.mark(0, 1, 0, 0, 0), k);
        }
        o.full("a 7th", () -> o.x.mark(0, 1, 0, 0, 0));
        o.bad("a 7th with x of 41", () -> o.x.mark(0, 1, 0, 0, 41));
        due("forget(2)", o.x.forget(2), 6);
        due("there is room again", o.x.mark(0, 1, 0, 0, 0), 1);

        Office.sentence("WHAT: KINDS of MAGNETS (bits) by which all MARKS of one are so.");
        Office two = new Office().magnet(0, 0, 1).magnet(0, 0, 1);
        two.same("no MARKS: all", () -> two.x.kinds(0), 63);
        for (int k = 0; k < 5; k++) {
            two.x.mark(0, 9, 3, 0, 15);
        }
        two.same("PLAIN, HORSESHOE", () -> two.x.kinds(0), 1 + 2);
        two.x.mark(0, 9, 2, 0, 16);
        two.same("the last of six: PLAIN", () -> two.x.kinds(0), 1);
        two.same("of the other none are told", () -> two.x.kinds(1), 63);
        two.x.forget(2);
        two.x.mark(1, 9, 11, 0, 40);
        two.same("no KIND", () -> two.x.kinds(1), 0);
        allMarks();
    }

    /** Every MARK that can be told, on days of both ends, by the Model's KINDS; and what is asked next. */
    private static void allMarks() {
        for (int p = 1; p <= 9; p++) {
            for (int f = 0; f <= 11; f++) {
                for (int d : new int[] {0, 1, 98, 99}) {
                    ClerkChains x = new ClerkChains();
                    Model model = new Model();
                    x.magnet(0, 0, p);
                    model.magnet(0, 0, p);
                    for (int v = -40; v <= 40; v++) {
                        x.mark(0, p, f, d, v);
                        model.mark(0, p, f, d, v);
                        String told = " behind a mark of " + p + ", " + f + ", " + d + ", " + v;
                        due("kinds(0)" + told, x.kinds(0), model.kinds(0));
                        due("ask(0)" + told, x.ask(0), model.ask(0));
                        x.forget(2);
                        model.forget(2);
                    }
                }
            }
        }
    }

    private static void ask() {
        Office.sentence("by which the most of these KINDS that PULL alike are fewest; of like ones the least; none: no KIND.");
        for (int p = 1; p <= 9; p++) {
            Office o = new Office().magnet(0, 0, p);
            // On DAY 0 KEEPER and COLD are alike; on DAY 1 and 0 far none are.
            o.same("all KINDS, power " + p, () -> o.x.ask(0), 100);
            o.x.mark(0, 9, 3, 0, 15);
            o.same("PLAIN, HORSESHOE: unlike at the least", () -> o.x.ask(0), 0);
            o.x.mark(0, 9, 2, 0, 16);
            o.same("one KIND", () -> o.x.ask(0), 0);
            o.x.mark(0, 9, 2, 0, 32);
            o.same("no KIND", () -> o.x.ask(0), NONE);
        }

        Office.sentence("ASK: 100 d and f (d 0, 1, f 0 .. 11), its POWER as it is");
        for (int p : new int[] {1, 9}) {
            Office o = new Office().magnet(5, 11, p);
            o.x.mark(0, 9, 3, 0, 8);
            o.same("KEEPER, COLD: unlike on day 1", () -> o.x.ask(0), 100);
            o.x.mark(0, 9, 3, 99, 0);
            o.same("COLD alone: the least", () -> o.x.ask(0), 0);
        }
    }

    // ---- LIFTS and SLIPS

    /** Two STRINGS that weigh so much, of four CLERKS at most each; seven in all. */
    private static Office twoOf(int first, int second) {
        Office o = new Office();
        int[] lefts = {first, second};
        for (int left : lefts) {
            for (int k = 0; left > 0; k++) {
                int c = o.x.clerk(0, 0, Math.min(9, left));
                due("hook", k == 0 || o.x.hook(c, c - 1) == k + 1 ? 1 : 0, 1);
                left -= 9;
            }
        }
        return o;
    }

    private static void rests(int first, int second, int... pairs) {
        Office o = twoOf(first, second);
        int b = o.x.count(0) - 1;
        String of = " of " + first + " and " + second;
        o.same("how many" + of, () -> o.x.lifts(0, b, NONE), pairs.length);
        for (int k = 0; k < pairs.length; k++) {
            int which = k;
            o.same("the " + k + "th" + of, () -> o.x.lifts(0, b, which), pairs[k]);
        }
        o.same("not so many" + of, () -> o.x.lifts(0, b, pairs.length), -5);
        o.same("far from so many" + of, () -> o.x.lifts(0, b, GREATEST_INT), -5);
        o.refused(Office.BAD, "k of -2", () -> o.x.lifts(0, b, -2), -10);
        o.refused(Office.BAD, "k far below", () -> o.x.lifts(0, b, LEAST_INT), -10);
    }

    private static void lifts() {
        Office.sentence("if i is more than j, or as much, and at least a third (cut up) of what it weighs");
        // 9 hands lift 27; against as many of the other the first lifts, at 0 and 9 it would.
        rests(27, 27, 90);
        // A third of 28 is 10 (cut up): of the first nobody lifts it, the second lifts its own by 9.
        rests(28, 27, 9);
        // Of 3 a third is 1, of 4 it is 2.
        rests(3, 28, 10);
        rests(4, 28, 20);
        rests(6, 28, 20);
        rests(7, 28, 30);
        rests(1, 28, 0, 10);

        Office.sentence("with i, j (0 .. 9) hands each");
        // By 9 hands 27 are lifted, and 9 are less than 27; for 28 there are not hands enough.
        rests(27, 1, 90);
        rests(1, 27, 9);
        rests(28, 1, 0, 1);
        rests(36, 27, 9);

        Office.sentence("to each what the STRING weighs that it lifts (none: 0), less 1 for each hand");
        // To lift 1 by 1 hand is no more than to lift none by none; to lift 2 is.
        rests(1, 36, 0, 10);
        rests(2, 36, 10);
        rests(36, 1, 0, 1);
        rests(36, 2, 1);

        Office.sentence("the second that of b, if j is more than i and at least a third (cut up) of what it weighs");
        rests(28, 3, 1);
        rests(28, 4, 2);
        rests(28, 6, 2);
        rests(28, 7, 3);
        rests(28, 1, 0, 1);
        rests(1, 1, 0, 1, 10);

        Office.sentence("pairs 10 i and j that rest (neither would get more by other hands): how many; the k-th (rising).");
        for (int first = 1; first <= 36; first++) {
            for (int second = 1; second <= 27; second++) {
                allPairs(first, second);
                allPairs(second, first);
            }
        }

        Office.sentence("two lift the STRINGS of CLERKS a and b (unlike)");
        Office one = Office.chain(2);
        for (int c = 0; c < 2; c++) {
            int who = c;
            one.refused(Office.BAD, "alike", () -> one.x.lifts(who, who, NONE), -10);
            one.refused(Office.BAD, "alike", () -> one.x.lifts(who, who, 0), -10);
        }
        // Both lift 2 together, by a third of 1: at 1 and 0 the second would get 0 by 2, at 0 and 0 1 by 1.
        one.same("unlike ones of one STRING", () -> one.x.lifts(0, 1, NONE), new Pairs(2, 2).rest.size());
        one.refused(Office.BAD, "one not there", () -> one.x.lifts(2, 0, NONE), -10);
        one.refused(Office.BAD, "one not there", () -> one.x.lifts(0, 2, NONE), -10);
        one.refused(Office.BAD, "both not there, alike", () -> one.x.lifts(9, 9, -9), -10);
    }

    private static void allPairs(int first, int second) {
        Office o = twoOf(first, second);
        int b = o.x.count(0) - 1;
        List<Integer> rest = new Pairs(first, second).rest;
        due("how many of " + first + " and " + second, o.x.lifts(0, b, NONE), rest.size());
        for (int k = 0; k <= rest.size(); k++) {
            due(k + " of " + first + " and " + second, o.x.lifts(0, b, k), k < rest.size() ? rest.get(k) : -5);
        }
    }

    /** The pairs of hands that rest, by a table of what each gets. */
    private static final class Pairs {
        final List<Integer> rest = new ArrayList<>();

        Pairs(int first, int second) {
            int[][] firstGets = new int[10][10];
            int[][] secondGets = new int[10][10];
            for (int i = 0; i < 10; i++) {
                for (int j = 0; j < 10; j++) {
                    firstGets[i][j] = (i >= j && 3 * i >= first ? first : 0) - i;
                    secondGets[i][j] = (j > i && 3 * j >= second ? second : 0) - j;
                }
            }
            for (int i = 0; i < 10; i++) {
                for (int j = 0; j < 10; j++) {
                    boolean rests = true;
                    for (int other = 0; other < 10; other++) {
                        rests &= firstGets[other][j] <= firstGets[i][j] && secondGets[i][other] <= secondGets[i][j];
                    }
                    if (rests) {
                        rest.add(10 * i + j);
                    }
                }
            }
        }
    }

    private static void slips() {
        Office.sentence("by c of 10 (0 .. 10) each hook, apart, slips: the chance that j FEELS a TUG t at i");
        Office o = Office.ofKinds(2, 2, 2, 2, 2, 2, 2).chained(7);
        o.bad("-1 of 10", () -> o.x.slips(0, 1, 1, -1));
        o.bad("11 of 10", () -> o.x.slips(0, 1, 1, 11));
        for (int far : FAR) {
            o.bad("far outside", () -> o.x.slips(0, 1, 1, far));
        }
        for (int j = 0; j < 7; j++) {
            for (int c = 0; c <= 10; c++) {
                slips(Office.ofKinds(2, 2, 2, 2, 2, 2, 2).chained(7), 0, j, c, j);
                slips(Office.ofKinds(2, 2, 2, 2, 2, 2, 2).chained(7), j, 3, c, Math.abs(j - 3));
            }
        }
        // From 3 to 4 over 1, 0 and 2: other hooks may slip.
        slips(Office.ofKinds(2, 2, 2, 2, 2, 2, 2).hooked(1, 0, 2, 0, 3, 1, 4, 2, 5, 1, 6, 2), 3, 4, 3, 4);
        Office dull = Office.ofPlain(3).hooked(1, 0);
        due("of 1 nothing goes on", dull.x.slips(0, 1, 1, 0), 1);
        due("above", dull.x.part(0), 0);
        due("below", dull.x.part(1), 1);
        due("by itself", dull.x.slips(0, 1, 0, 10), 1);
        due("above", dull.x.part(0), 1);
        due("below", dull.x.part(1), 1);
        due("another STRING", dull.x.slips(0, 20, 2, 0), 1);
        due("above", dull.x.part(0), 0);
        due("below", dull.x.part(1), 1);
    }

    private static void slips(Office o, int i, int j, int c, int hooks) {
        BigInteger above = BigInteger.valueOf(10 - c).pow(hooks);
        BigInteger below = BigInteger.TEN.pow(hooks);
        BigInteger by = above.gcd(below);
        String of = " of " + c + " of 10 over " + hooks + " hooks";
        due("slips" + of, o.x.slips(i, 1, j, c), 1);
        due("above" + of, o.x.part(0), above.divide(by).longValueExact());
        due("below" + of, o.x.part(1), below.divide(by).longValueExact());
    }

    private static void decades() {
        Office.sentence("DECADES by a SEED (0 .. 999999), n (0 .. 60) DAYS");
        Office o = Office.ofPlain(7);
        o.bad("a SEED of -1", () -> o.x.decades(-1, 0));
        o.bad("a SEED of 1000000", () -> o.x.decades(1000000, 0));
        o.bad("-1 DAYS", () -> o.x.decades(0, -1));
        o.bad("61 DAYS", () -> o.x.decades(0, 61));
        for (int far : FAR) {
            o.bad("far outside", () -> o.x.decades(far, 0));
            o.bad("far outside", () -> o.x.decades(0, far));
            o.bad("both far outside", () -> o.x.decades(far, far));
        }
        for (int seed : new int[] {0, 999999}) {
            o.same("no DAY", () -> o.x.decades(seed, 0), 0);
            // Of seven, all alone, one FEELS it each DAY.
            o.same("a DAY", () -> o.x.decades(seed, 1), 1);
            o.same("59 DAYS", () -> o.x.decades(seed, 59), 59);
            o.same("60 DAYS", () -> o.x.decades(seed, 60), 60);
        }

        Office.sentence("(not there: none)");
        Office nobody = new Office();
        nobody.same("nobody", () -> nobody.x.decades(999999, 60), 0);
        for (int seed : new int[] {0, 1, 500000, 999998, 999999}) {
            for (int there = 1; there <= 7; there++) {
                Office some = Office.ofPlain(there);
                int want = tugsAtLess(seed, 60, there);
                some.same(there + " by " + seed, () -> some.x.decades(seed, 60), want);
            }
        }
    }

    private static BigInteger nextOf(BigInteger x) {
        return x.multiply(new BigInteger("1103515245")).add(new BigInteger("12345")).mod(BigInteger.TWO.pow(31));
    }

    private static void tugsOfDecades() {
        Office.sentence("a TUG of X by 65536 (cut), by 20 left over, and 1, at CLERK X by 1048576 (cut), by 7 left over");
        // With RUST of 4 a TUG of 20 at 0 is FELT by 3, one of 19 is not.
        boolean[] tugs = new boolean[21];
        boolean[] clerks = new boolean[7];
        for (int seed = 0; seed < 20; seed++) {
            Office o = Office.ofKinds(0, 3, 3, 0, 1, 2, 5).untilDay(4).chained(7).magnet(3, 11, 9).magnet(0, 0, 9);
            int s = seed * 52631;
            int ahead = 0;
            BigInteger x = BigInteger.valueOf(s);
            for (int n = 1; n <= 60; n++) {
                x = nextOf(x);
                int t = x.divide(BigInteger.valueOf(65536)).intValueExact() % 20 + 1;
                int at = x.divide(BigInteger.valueOf(1048576)).intValueExact() % 7;
                tugs[t] = true;
                clerks[at] = true;
                int all = ahead + Integer.bitCount(felt(n - 1, at, t));
                int days = n;
                due("decades(" + s + ", " + n + ")", o.x.decades(s, days), all);
                ahead = all;
            }
        }
        for (int t = 1; t <= 20; t++) {
            due("a TUG of " + t + " was among them", tugs[t] ? 1 : 0, 1);
        }
        for (int c = 0; c < 7; c++) {
            due("CLERK " + c + " was among them", clerks[c] ? 1 : 0, 1);
        }
    }

    /** Who FEEL it (bits) in the office of tugsOfDecades, so many DAYS on. */
    private static int felt(int days, int at, int t) {
        ClerkChains x = Office.ofKinds(0, 3, 3, 0, 1, 2, 5).untilDay(4).chained(7).magnet(3, 11, 9).magnet(0, 0, 9).x;
        if (days > 0) {
            x.day(days);
        }
        return x.felt(at, t, NONE);
    }

    /** How many of the TUGS of a SEED are at a CLERK of a lesser number. */
    private static int tugsAtLess(int seed, int days, int number) {
        BigInteger x = BigInteger.valueOf(seed);
        int all = 0;
        for (int k = 0; k < days; k++) {
            x = nextOf(x);
            all += x.shiftRight(20).intValueExact() % 7 < number ? 1 : 0;
        }
        return all;
    }

    // ---- UNDO, IMAGES, STATUS, THE FRACTION

    private static void undo() {
        Office.sentence("as ahead of the last DAYS gone by, hooking, unbending (8 at most; behind a CLERK, a MAGNET that comes none may be)");
        for (int things = 0; things <= 10; things++) {
            Office o = Office.ofPlain(2);
            for (int k = 1; k <= things; k++) {
                o.x.day(1);
            }
            due("count(8) behind " + things, o.x.count(8), Math.min(8, things));
            for (int k = 1; k <= Math.min(8, things); k++) {
                due("undo()", o.x.undo(), things - k);
                due("count(8)", o.x.count(8), Math.min(8, things) - k);
            }
            o.no("one more", () -> o.x.undo());
        }
        // Nine: a hook, six DAYS, an unbending, a hook; the first hook stays.
        Office nine = Office.ofPlain(3).hooked(1, 0);
        for (int k = 0; k < 6; k++) {
            nine.x.day(1);
        }
        due("unbend(1)", nine.x.unbend(1), 0);
        due("hook(2, 1)", nine.x.hook(2, 1), 2);
        due("count(8)", nine.x.count(8), 8);
        due("the hook", nine.x.undo(), 6);
        due("of(2, 4)", nine.x.of(2, 4), NONE);
        due("the unbending", nine.x.undo(), 6);
        due("of(1, 4)", nine.x.of(1, 4), 0);
        for (int k = 5; k >= 0; k--) {
            due("a DAY", nine.x.undo(), k);
        }
        nine.no("the hook was the 9th", () -> nine.x.undo());
        due("of(1, 4)", nine.x.of(1, 4), 0);
        whatUndoLeaves();
    }

    private static void undoOfSeven() {
        Office.sentence("UNDO: DESKS of CLERKS, RUST, who is ON whom, the DAY as ahead of the last DAYS gone by, hooking, unbending");
        Office o = Office.with(0, 0, 1, 0, 1, 9, 0, 2, 1, 0, 3, 9, 0, 4, 1, 0, 5, 9, 0, 6, 1)
                .untilDay(3).magnet(0, 11, 4);
        List<List<Integer>> ahead = new ArrayList<>();
        int[][] hooks = {{6, 5}, {5, 3}, {0, 6}, {3, 1}};
        for (int[] hook : hooks) {
            ahead.add(whatIsUndone(o.x));
            o.x.day(hook[1]);
            ahead.add(whatIsUndone(o.x));
            o.hooked(hook);
        }
        ahead.add(whatIsUndone(o.x));
        due("count(8)", o.x.count(8), 8);
        for (int k = 7; k >= 0; k--) {
            due("as behind it", whatIsUndone(o.x).equals(ahead.get(k + 1)) ? 1 : 0, 1);
            due("unlike ahead of it", ahead.get(k).equals(ahead.get(k + 1)) ? 1 : 0, 0);
            due("undo()", o.x.undo(), ahead.get(k).get(0));
        }
        due("as at first", whatIsUndone(o.x).equals(ahead.get(0)) ? 1 : 0, 1);
    }

    /** The DAY, then DESK, RUST and ON of each CLERK. */
    private static List<Integer> whatIsUndone(ClerkChains x) {
        List<Integer> all = new ArrayList<>(List.of(x.count(2)));
        for (int c = 0; c < 7; c++) {
            all.addAll(List.of(x.of(c, 1), x.of(c, 3), x.of(c, 4)));
        }
        return all;
    }

    private static void whatUndoLeaves() {
        Office o = Office.ofPlain(6).magnet(0, 0, 1).magnet(0, 0, 1);
        o.x.day(1);
        o.bad("a CLERK that does not come", () -> o.x.clerk(0, 0, 10));
        o.bad("a MAGNET that does not come", () -> o.x.magnet(0, 0, 10));
        due("it may be undone", o.x.count(8), 1);
        due("a 7th", o.x.clerk(0, 0, 1), 6);
        o.no("behind a CLERK", () -> o.x.undo());
        due("the DAY stays", o.x.count(2), 1);
        o.x.day(1);
        due("a 3rd", o.x.magnet(0, 0, 1), 2);
        o.no("behind a MAGNET", () -> o.x.undo());
        due("the DAY stays", o.x.count(2), 2);
        o.x.day(1);
        o.full("a CLERK that does not come", () -> o.x.clerk(0, 0, 1));
        o.full("a MAGNET that does not come", () -> o.x.magnet(0, 0, 1));
        o.bad("DAYS that do not go by", () -> o.x.day(61));
        o.no("an unbending that is none", () -> o.x.unbend(0));
        due("it may be undone", o.x.undo(), 2);
        due("office()", o.x.office(), 7);
        o.x.clerk(0, 0, 1);
        o.x.day(1);
        due("office()", o.x.office(), 1);
        o.no("behind office()", () -> o.x.undo());
    }

    private static void images() {
        Office.sentence("IMAGES 0, 1 keep all but them, THE TEXT, THE FRACTION and STATUS; what may be undone they keep; it goes on from one.");
        for (int i : new int[] {-1, 2, LEAST_INT, GREATEST_INT}) {
            Lives.refused(Lives::full, "image(" + i + ")", x -> x.image(i), ClerkChains.BAD, Office.BAD);
            Lives.refused(Lives::full, "from(" + i + ")", x -> x.from(i), ClerkChains.BAD, Office.BAD);
            Lives.refused(Lives::empty, "from(" + i + ")", x -> x.from(i), ClerkChains.BAD, Office.BAD);
        }
        Lives.refused(Lives::empty, "from(0), none kept", x -> x.from(0), ClerkChains.NO, Office.NO);
        Lives.refused(Lives::empty, "from(1), none kept", x -> x.from(1), ClerkChains.NO, Office.NO);
        Lives.refused(Lives::some, "from(0), none kept", x -> x.from(0), ClerkChains.NO, Office.NO);
        for (int kept = 0; kept < 2; kept++) {
            int i = kept;
            ClerkChains x = Lives.full();
            due("image(" + i + ")", x.image(i), 1);
            x.office();
            due("from(" + i + ")", x.from(i), 1);
            due("all is as it was", Lives.standing(x).equals(Lives.standing(Lives.full())) ? 1 : 0, 1);
            due("the other stays", x.from(1 - i), 1);
            due("how many were TOLD in it", x.count(5), 1 - i);
        }
        ClerkChains y = Lives.full();
        long kept = y.digest();
        due("image(0)", y.image(0), 1);
        due("eight are undone", back(y), 8);
        due("from(0)", y.from(0), 1);
        due("digest()", y.digest(), kept);
        due("eight are undone again", back(y), 8);
        due("from(0) again", y.from(0), 1);
        due("digest()", y.digest(), kept);
    }

    private static int back(ClerkChains x) {
        int times = 0;
        while (times < 20 && x.undo() >= 0) {
            times++;
        }
        return times;
    }

    private static void status() {
        Office.sentence("STATUS: how many calls were refused as BAD, NO, FULL (each answer told so below is such a one).");
        Office o = new Office();
        for (int reason = 0; reason < 3; reason++) {
            int which = reason;
            o.same("none at first", () -> o.x.status(which), 0);
        }
        for (int k = 1; k <= 20; k++) {
            o.x.day(0);
            due("BAD", o.x.status(0), k);
        }
        o.x.undo();
        due("NO", o.x.status(1), 1);
        for (int c = 0; c < 9; c++) {
            o.x.clerk(0, 0, 1);
        }
        due("FULL", o.x.status(2), 2);
        due("BAD as before", o.x.status(0), 20);
        // Answers below 0 that tell of none.
        int[] none = {o.x.least(0, 1), o.x.quiet(0, 1), o.x.lifts(0, 1, 99), o.x.free(1) - 1, o.x.read(), o.x.of(0, 4)};
        due("answers below 0", none[0] < 0 && none[1] < 0 && none[2] < 0 && none[4] < 0 && none[5] < 0 ? 1 : 0, 1);
        due("BAD as before", o.x.status(0), 20);
        due("NO as before", o.x.status(1), 1);
        due("FULL as before", o.x.status(2), 2);
        due("-1000 of string is BAD", o.x.string(0, 9), -1000);
        due("BAD", o.x.status(0), 21);
        due("-10 of lifts is BAD", o.x.lifts(0, 0, -1), -10);
        due("BAD", o.x.status(0), 22);
        due("-1 of status is BAD", o.x.status(3), -1);
        due("BAD", o.x.status(0), 23);
        due("-2 of part is BAD", o.x.part(2), -2);
        due("BAD", o.x.status(0), 24);
        o.x.office();
        o.x.image(0);
        o.x.from(0);
        due("BAD stays", o.x.status(0), 24);
    }

    private static void fraction() {
        Office.sentence("THE FRACTION is 0 by 1 at first; lowest terms, below above 0.");
        Office o = Office.ofKinds(2, 2).chained(2);
        due("above", o.x.part(0), 0);
        due("below", o.x.part(1), 1);
        long[][] rows = {{1, 1}, {9, 10}, {4, 5}, {7, 10}, {3, 5}, {1, 2}, {2, 5}, {3, 10}, {1, 5}, {1, 10}, {0, 1}};
        for (int c = 0; c <= 10; c++) {
            due("slips", o.x.slips(0, 1, 1, c), 1);
            due("above by " + c, o.x.part(0), rows[c][0]);
            due("below by " + c, o.x.part(1), rows[c][1]);
            o.bad("refused", () -> o.x.slips(0, 1, 1, 11));
            due("it stays", o.x.part(0), rows[c][0]);
        }
    }
}
