/** The edges that the Terms name, up to what a DAY does: a test for each sentence, worked out by hand. */
public final class EdgesOfTermsTest {
    private static final int LEAST_INT = Integer.MIN_VALUE, GREATEST_INT = Integer.MAX_VALUE;
    private static final int PLAIN = 0, RUSTY = 1, BRIGHT = 2, BENT = 3, COPPER = 4, MINISTER = 5;
    private static final int HORSESHOE = 1, KEEPER = 2, COLD = 3, TURNED = 4, GREAT = 5;

    public static void main(String[] args) {
        theCorridor();
        theClerks();
        whoMayBeOnWhom();
        theMagnets();
        theDays();
        kindsOfClerks();
        kindsOfMagnets();
        whatIsFelt();
        howStringsAreDrawn();
        whatADayDoes();
        Office.end();
    }

    private static void due(String call, long got, long want) {
        Office.due(call, got, want);
    }

    // ---- CLERKS along a corridor

    private static void theCorridor() {
        Office.sentence("11 along a corridor");
        Office o = new Office();
        o.bad("a desk below", () -> o.x.clerk(0, -1, 1));
        o.bad("a desk above", () -> o.x.clerk(0, 12, 1));
        o.bad("far below", () -> o.x.clerk(0, LEAST_INT, 1));
        o.bad("far above", () -> o.x.clerk(0, GREATEST_INT, 1));
        o.bad("a magnet's below", () -> o.x.magnet(0, -1, 1));
        o.bad("a magnet's above", () -> o.x.magnet(0, 12, 1));
        o.bad("far below", () -> o.x.magnet(0, LEAST_INT, 1));
        o.bad("far above", () -> o.x.magnet(0, GREATEST_INT, 1));
        due("the least", o.x.clerk(0, 0, 1), 0);
        due("the greatest", o.x.clerk(0, 11, 1), 1);
        due("of(0, 1)", o.x.of(0, 1), 0);
        due("of(1, 1)", o.x.of(1, 1), 11);
        due("the least of a magnet", o.x.magnet(0, 0, 1), 0);
        due("the greatest of a magnet", o.x.magnet(0, 11, 1), 1);
    }

    private static void theClerks() {
        Office.sentence("CLERKS 0 .. 6, as they come");
        Office o = new Office();
        for (int c = 0; c < 7; c++) {
            due("count(0)", o.x.count(0), c);
            int next = c;
            o.bad("one who has not come yet", () -> o.x.of(next, 0));
            due("clerk", o.x.clerk(5 - c % 6, c, 1), c);
            due("its KIND", o.x.of(c, 0), 5 - c % 6);
        }
        o.full("an 8th", () -> o.x.clerk(0, 0, 1));
        o.bad("number 7", () -> o.x.of(7, 0));
        o.bad("number -1", () -> o.x.of(-1, 0));
        o.same("number 6", () -> o.x.of(6, 1), 6);

        Office.sentence("a WEIGHT (1 .. 9)");
        Office w = new Office();
        w.bad("0", () -> w.x.clerk(0, 0, 0));
        w.bad("10", () -> w.x.clerk(0, 0, 10));
        w.bad("far below", () -> w.x.clerk(0, 0, LEAST_INT));
        w.bad("far above", () -> w.x.clerk(0, 0, GREATEST_INT));
        due("1", w.x.clerk(0, 0, 1), 0);
        due("9", w.x.clerk(0, 0, 9), 1);
        due("of(0, 2)", w.x.of(0, 2), 1);
        due("of(1, 2)", w.x.of(1, 2), 9);

        rustAtItsEnds();

        Office.sentence("(NONE at first)");
        Office n = Office.ofPlain(7);
        for (int c = 0; c < 7; c++) {
            due("of(" + c + ", 4)", n.x.of(c, 4), ClerkChains.NONE);
        }
        due("hooks", n.x.count(3), 0);
    }

    private static void rustAtItsEnds() {
        Office.sentence("RUST (0 .. 99; 0 at first)");
        Office o = Office.ofPlain(1);
        due("at first", o.x.of(0, 3), 0);
        o.untilDay(98);
        due("behind 98 days", o.x.of(0, 3), 98);
        o.untilDay(99);
        due("behind 99 days", o.x.of(0, 3), 99);
        o.untilDay(100);
        due("behind 100 days", o.x.of(0, 3), 99);
        due("one who comes on day 100", o.x.clerk(0, 0, 1), 1);
        due("its rust at first", o.x.of(1, 3), 0);
        o.untilDay(999);
        due("behind 999 days", o.x.of(0, 3), 99);
        due("rust of all", o.x.count(4), 198);
        Office seven = Office.ofPlain(7).untilDay(120);
        due("the greatest rust of all", seven.x.count(4), 693);
    }

    // ---- who is ON whom

    private static void whoMayBeOnWhom() {
        Office.sentence("none comes to be ON itself");
        Office o = Office.ofPlain(7);
        for (int c = 0; c < 7; c++) {
            int who = c;
            o.bad("hook(" + c + ", " + c + ")", () -> o.x.hook(who, who));
            due("caught by itself", o.x.caught(c) >> c & 1, 0);
        }

        Office.sentence("nor ON one that is ON it");
        Office two = Office.ofPlain(3).hooked(1, 0);
        two.no("hook(0, 1)", () -> two.x.hook(0, 1));
        two.same("caught(0)", () -> two.x.caught(0), 4);
        due("ON another one it may be", two.x.hook(0, 2), 3);

        Office.sentence("or ON one that is, and so on");
        Office chain = Office.chain(7);
        for (int j = 1; j < 7; j++) {
            int whom = j;
            chain.no("hook(0, " + j + ")", () -> chain.x.hook(0, whom));
        }
        chain.same("caught(0)", () -> chain.x.caught(0), 0);
        due("unbend(3)", chain.x.unbend(3), 2);
        chain.no("still ON one that is ON it", () -> chain.x.hook(0, 2));
        chain.same("caught(0)", () -> chain.x.caught(0), 8 + 16 + 32 + 64);
        due("ON the far end of the others", chain.x.hook(0, 6), 7);
        chain.no("now these can not", () -> chain.x.hook(3, 2));

        Office.sentence("two at most are ON one");
        Office three = Office.ofPlain(5);
        due("a first", three.x.hook(1, 0), 2);
        due("a second", three.x.hook(2, 0), 3);
        three.full("a third", () -> three.x.hook(3, 0));
        three.same("caught(3)", () -> three.x.caught(3), 2 + 4 + 16);
        due("one less", three.x.unbend(1), 0);
        due("a second again", three.x.hook(3, 0), 3);
        three.full("a third again", () -> three.x.hook(1, 0));
        due("one ON it and ON one itself", three.x.hook(0, 4), 4);
        three.full("a third, ON one that is ON one", () -> three.x.hook(1, 0));

        Office.sentence("A STRING: all who are so together (one alone, too).");
        Office alone = Office.with(0, 0, 4);
        alone.same("one alone", () -> alone.x.string(0, 0), 1);
        alone.same("it weighs", () -> alone.x.string(0, 1), 4);
        alone.same("its longest", () -> alone.x.string(0, 2), 1);
        alone.same("how many", () -> alone.x.strings(0), 1);
        Office none = new Office();
        none.same("nobody", () -> none.x.strings(0), 0);
        Office all = Office.chain(7);
        for (int c = 0; c < 7; c++) {
            due("all seven", all.x.string(c, 0), 127);
        }
        due("one string", all.x.strings(0), 1);
        Office apart = Office.ofPlain(7);
        due("seven strings", apart.x.strings(0), 7);
        due("the last alone", apart.x.string(6, 0), 64);
    }

    // ---- MAGNETS and DAYS

    private static void theMagnets() {
        Office.sentence("MAGNETS 0 .. 2, as they come");
        Office o = new Office();
        for (int m = 0; m < 3; m++) {
            int next = m;
            o.bad("one that has not come yet", () -> o.x.kinds(next));
            due("magnet", o.x.magnet(m, m, 1), m);
            o.same("one that has come", () -> o.x.kinds(next), 63);
        }
        o.full("a 4th", () -> o.x.magnet(0, 0, 1));
        o.bad("number 3", () -> o.x.kinds(3));
        o.bad("number -1", () -> o.x.kinds(-1));

        Office.sentence("a POWER (1 .. 9)");
        Office p = Office.with(0, 10, 9);
        p.bad("0", () -> p.x.magnet(0, 11, 0));
        p.bad("10", () -> p.x.magnet(0, 11, 10));
        p.bad("far below", () -> p.x.magnet(0, 11, LEAST_INT));
        p.bad("far above", () -> p.x.magnet(0, 11, GREATEST_INT));
        due("1", p.x.magnet(0, 11, 1), 0);
        p.same("drawn by 1", () -> p.x.string(0, 3), 1);
        due("9", p.x.magnet(0, 11, 9), 1);
        p.same("drawn by 9 more", () -> p.x.string(0, 3), 18);
    }

    private static void theDays() {
        Office.sentence("DAYS have numbers, 0 at first (999 at most).");
        Office o = Office.ofPlain(1);
        due("at first", o.x.count(2), 0);
        o.untilDay(998).magnet(0, 11, 9);
        due("the last day goes by", o.x.day(1), 1);
        due("count(2)", o.x.count(2), 999);
        due("desk", o.x.of(0, 1), 6);
        due("none goes by", o.x.day(1), 0);
        due("count(2)", o.x.count(2), 999);
        due("desk", o.x.of(0, 1), 6);
        due("rust", o.x.of(0, 3), 0);
        due("none of many goes by", o.x.day(60), 0);
        due("count(2)", o.x.count(2), 999);
        due("undo of none", o.x.undo(), 999);
        due("undo of none", o.x.undo(), 999);
        due("undo of the last", o.x.undo(), 998);
        due("desk", o.x.of(0, 1), 5);
        due("all are there again: one goes by of many", o.x.day(60), 1);
        due("count(2)", o.x.count(2), 999);
        due("office()", o.x.office(), 1);
        due("0 again", o.x.count(2), 0);
    }

    // ---- KINDS of CLERKS

    /** What goes on from one of a KIND whose RUST is as many DAYS as have gone by. */
    private static int goesOn(int kind, int t, int rust) {
        Office o = Office.ofKinds(kind, PLAIN).untilDay(rust);
        o.x.hook(0, 1);
        return o.x.felt(0, t, 1);
    }

    private static void goOn(int kind, int[][] rows) {
        for (int[] row : rows) {
            due("of " + row[0] + " with rust " + row[1], goesOn(kind, row[0], row[1]), row[2]);
        }
    }

    private static void kindsOfClerks() {
        Office.sentence("how much of a TUG t (1 .. 20) goes on from one");
        Office o = Office.chain(2);
        o.bad("0", () -> o.x.felt(0, 0, 0));
        o.bad("21", () -> o.x.felt(0, 21, 0));
        o.bad("far below", () -> o.x.felt(0, LEAST_INT, 0));
        o.bad("far above", () -> o.x.felt(0, GREATEST_INT, 0));
        o.same("1", () -> o.x.felt(0, 1, 0), 1);
        o.same("20", () -> o.x.felt(0, 20, 0), 20);

        Office.sentence("0 PLAIN: 1 less than t.");
        goOn(PLAIN, new int[][] {{1, 0, 0}, {2, 0, 1}, {19, 0, 18}, {20, 0, 19}, {20, 99, 19}});

        Office.sentence("PLAIN less u (less 4, if u is above that), 0 at least.");
        goOn(RUSTY, new int[][] {{9, 0, 8}, {9, 1, 7}, {9, 3, 5}, {9, 4, 4}, {9, 5, 4}, {9, 99, 4}});
        goOn(RUSTY, new int[][] {{5, 3, 1}, {4, 3, 0}, {3, 3, 0}, {1, 3, 0}});
        goOn(RUSTY, new int[][] {{6, 4, 1}, {5, 4, 0}, {4, 4, 0}, {6, 5, 1}, {5, 5, 0}, {1, 99, 0}});
        goOn(RUSTY, new int[][] {{1, 0, 0}, {2, 0, 1}, {2, 1, 0}, {1, 1, 0}, {20, 0, 19}, {20, 99, 15}});

        Office.sentence("1 more than PLAIN.");
        goOn(BRIGHT, new int[][] {{1, 0, 1}, {2, 0, 2}, {19, 0, 19}, {20, 0, 20}, {20, 99, 20}});

        Office.sentence("half (cut) of RUSTY.");
        goOn(BENT, new int[][] {{1, 0, 0}, {2, 0, 0}, {3, 0, 1}, {4, 0, 1}, {5, 0, 2}, {19, 0, 9}, {20, 0, 9}});
        goOn(BENT, new int[][] {{6, 4, 0}, {7, 4, 1}, {8, 4, 1}, {9, 4, 2}, {9, 5, 2}, {9, 99, 2}, {1, 99, 0}});

        Office.sentence("PLAIN, if t is 5 or more, else 0.");
        goOn(COPPER, new int[][] {{1, 0, 0}, {4, 0, 0}, {5, 0, 4}, {6, 0, 5}, {20, 0, 19}, {5, 99, 4}, {4, 99, 0}});

        Office.sentence("twice BRIGHT, 20 at most.");
        goOn(MINISTER, new int[][] {{1, 0, 2}, {2, 0, 4}, {9, 0, 18}, {10, 0, 20}, {11, 0, 20}, {20, 0, 20}});
        goOn(MINISTER, new int[][] {{1, 99, 2}, {9, 99, 18}, {10, 99, 20}});

        Office.sentence("KINDS of CLERKS, each under the one told");
        Office k = new Office();
        k.bad("-1", () -> k.x.clerk(-1, 0, 1));
        k.bad("6", () -> k.x.clerk(6, 0, 1));
        k.bad("far below", () -> k.x.clerk(LEAST_INT, 0, 1));
        k.bad("far above", () -> k.x.clerk(GREATEST_INT, 0, 1));
        due("0", k.x.clerk(0, 0, 1), 0);
        due("5", k.x.clerk(5, 0, 1), 1);
    }

    // ---- KINDS of MAGNETS

    /** By how much one of a KIND PULLS, as MARKS of it tell. */
    private static int pull(int kind, int p, int f, int d) {
        Office o = new Office().magnet(kind, 0, 1);
        int found = -1000;
        for (int x = -40; x <= 40; x++) {
            o.x.mark(0, p, f, d, x);
            if ((o.x.kinds(0) >> kind & 1) != 0) {
                due("one pull alone", found, -1000);
                found = x;
            }
            o.x.forget(2);
        }
        return found;
    }

    /** By how much one at DESK 11 PULLS a CLERK so FAR, as its STRING tells. */
    private static int drawn(int kind, int p, int f, int d) {
        Office o = Office.with(0, 11 - f, 9).untilDay(d).magnet(kind, 11, p);
        return o.x.string(0, 3);
    }

    private static void pulls(int kind, int[][] rows) {
        for (int[] row : rows) {
            String of = "power " + row[0] + ", far " + row[1] + ", day " + row[2];
            due("pull by " + of, pull(kind, row[0], row[1], row[2]), row[3]);
            due("drawn by " + of, drawn(kind, row[0], row[1], row[2]), row[1] == 0 ? 0 : row[3]);
        }
    }

    private static void kindsOfMagnets() {
        Office.sentence("0 PLAIN: twice p, less f, 0 at least.");
        pulls(PLAIN, new int[][] {{1, 0, 0, 2}, {1, 1, 0, 1}, {1, 2, 0, 0}, {1, 3, 0, 0}, {1, 11, 0, 0}});
        pulls(PLAIN, new int[][] {{5, 9, 0, 1}, {5, 10, 0, 0}, {5, 11, 0, 0}, {6, 11, 0, 1}, {9, 0, 0, 18}, {9, 11, 0, 7}});

        Office.sentence("twice PLAIN, if f is 2 or less, else as PLAIN.");
        pulls(HORSESHOE, new int[][] {{9, 0, 0, 36}, {9, 1, 0, 34}, {9, 2, 0, 32}, {9, 3, 0, 15}, {9, 4, 0, 14}});
        pulls(HORSESHOE, new int[][] {{1, 0, 0, 4}, {1, 1, 0, 2}, {1, 2, 0, 0}, {1, 3, 0, 0}, {9, 11, 0, 7}, {2, 2, 0, 4}});

        Office.sentence("half (cut up) of PLAIN.");
        pulls(KEEPER, new int[][] {{1, 0, 0, 1}, {1, 1, 0, 1}, {1, 2, 0, 0}, {1, 3, 1, 0}, {2, 1, 0, 2}, {2, 2, 1, 1}});
        pulls(KEEPER, new int[][] {{9, 0, 0, 9}, {9, 1, 1, 9}, {9, 2, 0, 8}, {9, 10, 0, 4}, {9, 11, 0, 4}});

        Office.sentence("as KEEPER on DAYS of an even number, else 0.");
        pulls(COLD, new int[][] {{9, 1, 0, 9}, {9, 1, 1, 0}, {9, 1, 2, 9}, {9, 1, 98, 9}, {9, 1, 99, 0}, {1, 2, 0, 0}});
        due("day 998", drawn(COLD, 9, 1, 998), 9);
        due("day 999", drawn(COLD, 9, 1, 999), 0);

        Office.sentence("0 less PLAIN (it pushes).");
        pulls(TURNED, new int[][] {{1, 0, 0, -2}, {1, 1, 0, -1}, {1, 2, 0, 0}, {1, 3, 0, 0}, {9, 0, 1, -18}, {9, 11, 0, -7}});
        Office left = Office.with(0, 3, 9).magnet(TURNED, 2, 9);
        left.same("it pushes to the right, too", () -> left.x.string(0, 3), 17);

        Office.sentence("HORSESHOE and 3, if that is 1 or more.");
        pulls(GREAT, new int[][] {{1, 0, 0, 7}, {1, 1, 0, 5}, {1, 2, 0, 0}, {1, 3, 0, 0}, {5, 9, 0, 4}, {5, 10, 0, 0}});
        pulls(GREAT, new int[][] {{9, 0, 0, 39}, {9, 2, 0, 35}, {9, 3, 0, 18}, {9, 11, 0, 10}, {6, 11, 0, 4}});

        Office.sentence("KINDS of MAGNETS, each under the one told");
        Office k = new Office();
        k.bad("-1", () -> k.x.magnet(-1, 0, 1));
        k.bad("6", () -> k.x.magnet(6, 0, 1));
        k.bad("far below", () -> k.x.magnet(LEAST_INT, 0, 1));
        k.bad("far above", () -> k.x.magnet(GREATEST_INT, 0, 1));
        due("0", k.x.magnet(0, 0, 1), 0);
        due("5", k.x.magnet(5, 0, 1), 1);
    }

    // ---- FELT

    private static void whatIsFelt() {
        Office.sentence("a TUG t at a CLERK is FELT by it as t");
        for (int kind = PLAIN; kind <= MINISTER; kind++) {
            Office one = Office.ofKinds(kind).untilDay(99);
            one.same("the least", () -> one.x.felt(0, 1, 0), 1);
            one.same("the greatest", () -> one.x.felt(0, 20, 0), 20);
        }

        Office.sentence("goes to the one it is ON and to those ON it (not back)");
        // 1 is ON 0, 2 and 3 ON 1, all MINISTERS: what came back would be more.
        Office o = Office.ofKinds(MINISTER, MINISTER, MINISTER, MINISTER).hooked(1, 0, 2, 1, 3, 1);
        o.same("at 1 it stays 1", () -> o.x.felt(1, 1, 1), 1);
        o.same("to the one it is ON", () -> o.x.felt(1, 1, 0), 2);
        o.same("to the first ON it", () -> o.x.felt(1, 1, 2), 2);
        o.same("to the second ON it", () -> o.x.felt(1, 1, 3), 2);
        o.same("from 2 up to 1", () -> o.x.felt(2, 1, 1), 2);
        o.same("and down again, to 3", () -> o.x.felt(2, 1, 3), 4);
        o.same("not back to 2", () -> o.x.felt(2, 1, 2), 1);
        Office chain = Office.chain(7);
        chain.same("over six hooks", () -> chain.x.felt(6, 20, 0), 14);
        chain.same("the other way", () -> chain.x.felt(0, 20, 6), 14);

        Office.sentence("0: not FELT.");
        // A PLAIN one lets nothing go on of 1; the MINISTER behind it would let 0 twice go on.
        Office none = Office.ofKinds(PLAIN, MINISTER, BRIGHT).hooked(1, 0, 2, 1);
        none.same("of 1", () -> none.x.felt(0, 1, 1), 0);
        none.same("nor behind it", () -> none.x.felt(0, 1, 2), 0);
        none.same("as bits", () -> none.x.felt(0, 1, -1), 1);
        none.same("of 2", () -> none.x.felt(0, 2, 1), 1);
        none.same("of 2, behind it", () -> none.x.felt(0, 2, 2), 2);
        none.same("as bits", () -> none.x.felt(0, 2, -1), 7);
        Office apart = Office.ofKinds(MINISTER, MINISTER);
        apart.same("another STRING", () -> apart.x.felt(0, 20, 1), 0);
    }

    // ---- DRAWN

    private static void howStringsAreDrawn() {
        Office.sentence("a MAGNET at a greater DESK PULLS to the right, at a lesser one to the left (at its own not)");
        int[][] rows = {{4, 9}, {5, 0}, {6, -9}, {0, 5}, {11, -4}};
        for (int[] row : rows) {
            Office o = Office.with(0, row[0], 9).magnet(0, 5, 5);
            o.same("at desk " + row[0], () -> o.x.string(0, 3), row[1]);
        }
        Office ends = Office.with(0, 0, 9, 0, 11, 9).magnet(GREAT, 0, 9).magnet(GREAT, 11, 9);
        ends.same("at the left end", () -> ends.x.string(0, 3), 10);
        ends.same("at the right end", () -> ends.x.string(1, 3), -10);

        Office.sentence("all together");
        // From 4 by 3 right, from 6 by 3 left, from 7 by 2 left.
        Office all = Office.with(0, 4, 1, 0, 6, 1, 0, 7, 1).hooked(1, 0, 2, 1).magnet(0, 5, 2);
        all.same("three of a STRING", () -> all.x.string(1, 3), -2);
        all.magnet(4, 5, 2);
        all.same("two MAGNETS, one pushing as much", () -> all.x.string(1, 3), 0);

        asMuchAsItWeighs();

        Office.sentence("unless one would leave the corridor");
        // A TURNED one of power 9, one desk away, pushes by 17.
        int[][] walls = {{11, 10, 11, 0}, {10, 9, 11, 1}, {0, 1, 0, 0}, {1, 2, 0, 1}};
        for (int[] row : walls) {
            Office o = Office.with(0, row[0], 1).magnet(TURNED, row[1], 9);
            due("day from desk " + row[0], o.x.day(1), row[3]);
            due("desk", o.x.of(0, 1), row[2]);
            due("rust", o.x.of(0, 3), 1 - row[3]);
        }
        for (int at = 0; at < 3; at++) {
            int[] desks = {5, 5, 5};
            desks[at] = 11;
            Office o = Office.with(0, desks[0], 1, 0, desks[1], 1, 0, desks[2], 1).chained(3).magnet(TURNED, 4, 9);
            due("one of three at the right wall", o.x.day(1), 0);
            due("the others stay", o.x.of((at + 1) % 3, 1), 5);
            desks[at] = 10;
            Office free = Office.with(0, desks[0], 1, 0, desks[1], 1, 0, desks[2], 1).chained(3).magnet(TURNED, 4, 9);
            due("one of three short of the wall", free.x.day(1), 1);
            due("it is at the wall", free.x.of(at, 1), 11);
            due("the others went", free.x.of((at + 1) % 3, 1), 6);
        }
    }

    /** One desk away a PLAIN magnet of power 1 pulls by 1, of power 2 by 3. */
    private static void asMuchAsItWeighs() {
        Office.sentence("that is (either way) as much as the STRING weighs together, or more, all of it go one DESK that way");
        int[][] rows = {{1, 1, 1}, {1, 2, 0}, {2, 2, 1}, {2, 3, 1}, {2, 4, 0}};
        for (int[] row : rows) {
            Office right = Office.with(0, 4, row[1]).magnet(0, 5, row[0]);
            due("right, power " + row[0] + ", weight " + row[1], right.x.day(1), row[2]);
            due("desk", right.x.of(0, 1), 4 + row[2]);
            due("rust", right.x.of(0, 3), 1 - row[2]);
            Office left = Office.with(0, 6, row[1]).magnet(0, 5, row[0]);
            due("left, power " + row[0] + ", weight " + row[1], left.x.day(1), row[2]);
            due("desk", left.x.of(0, 1), 6 - row[2]);
            due("rust", left.x.of(0, 3), 1 - row[2]);
        }
        // Two at one desk are pulled by 3 each.
        int[][] pairs = {{2, 3, 1}, {3, 3, 1}, {3, 4, 0}};
        for (int[] pair : pairs) {
            Office two = Office.with(0, 4, pair[0], 0, 4, pair[1]).hooked(1, 0).magnet(0, 5, 2);
            due("together " + (pair[0] + pair[1]), two.x.day(1), pair[2]);
            due("desk", two.x.of(0, 1), 4 + pair[2]);
            due("desk", two.x.of(1, 1), 4 + pair[2]);
        }
        Office still = Office.with(0, 4, 1);
        due("no MAGNET", still.x.day(1), 0);
        due("desk", still.x.of(0, 1), 4);
    }

    // ---- a DAY

    private static void whatADayDoes() {
        Office.sentence("all STRINGS, by where they are ahead of it, are drawn");
        // At 4 and 6 a string of two is drawn by 3 and by 3 left: it stays, whoever is looked at first.
        Office o = Office.with(0, 4, 1, 0, 6, 1, 0, 4, 1, 0, 6, 1).hooked(1, 0).magnet(0, 5, 2);
        due("day", o.x.day(1), 2);
        due("both ways alike", o.x.of(0, 1), 4);
        due("both ways alike", o.x.of(1, 1), 6);
        due("one alone", o.x.of(2, 1), 5);
        due("one alone", o.x.of(3, 1), 5);
        due("at the MAGNET: none", o.x.day(1), 0);

        Office.sentence("RUST of each that did not go is 1 more, of each that did 0");
        due("did not go", o.x.of(0, 3), 2);
        due("went a day ago", o.x.of(2, 3), 1);
        Office rusty = Office.with(0, 4, 1, 0, 0, 9).untilDay(99).magnet(0, 11, 5);
        due("rust of 99", rusty.x.of(0, 3), 99);
        due("one goes", rusty.x.day(1), 1);
        due("of it that went", rusty.x.of(0, 3), 0);
        due("of it that did not", rusty.x.of(1, 3), 99);

        Office.sentence("the DAY is one more");
        due("count(2)", rusty.x.count(2), 100);
        Office nobody = new Office();
        due("with nobody, too", nobody.x.day(1), 0);
        due("count(2)", nobody.x.count(2), 1);
    }
}
