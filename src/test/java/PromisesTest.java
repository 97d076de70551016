import java.util.ArrayList;
import java.util.List;

/** A test for each promise: ordinary calls, the edges that the document names, and wrong ones. */
public final class PromisesTest {
    private static final int[] FAR = {Integer.MIN_VALUE, Integer.MAX_VALUE};

    public static void main(String[] args) {
        anOffice();
        days();
        tugs();
        whoWasOnWhom();
        whatThereIs();
        Office.end();
    }

    private static void due(String call, long got, long want) {
        Office.due(call, got, want);
    }

    private static Office promise(int number, Office office) {
        Office.promise(String.valueOf(number));
        return office;
    }

    // ---- an office

    private static void anOffice() {
        newObject();
        office();
        clerk();
        magnet();
        type();
        clear();
        read();
        readFaults();
    }

    private static void newObject() {
        Office o = promise(1, new Office());
        for (int what = 0; what <= 9; what++) {
            due("count(" + what + ")", o.x.count(what), 0);
        }
        due("part(0)", o.x.part(0), 0);
        due("part(1)", o.x.part(1), 1);
        for (int reason = 0; reason < 3; reason++) {
            due("status(" + reason + ")", o.x.status(reason), 0);
        }
        o.no("from(0)", () -> o.x.from(0));
        o.no("from(1)", () -> o.x.from(1));
        due("NONE", ClerkChains.NONE, -1);
        due("BAD", ClerkChains.BAD, -2);
        due("NO", ClerkChains.NO, -3);
        due("FULL", ClerkChains.FULL, -4);
    }

    private static Office lived() {
        Office o = Office.with(0, 0, 1, 2, 3, 4).hooked(1, 0);
        o.x.magnet(1, 2, 3);
        o.x.day(2);
        o.x.told(0, 1, 1, 1);
        o.x.note(0, 1, 2, 3);
        o.x.mark(0, 1, 2, 3, 4);
        o.text("office;");
        o.x.slips(0, 9, 1, 3);
        o.x.day(61);
        return o;
    }

    private static void office() {
        Office o = promise(2, lived());
        o.x.image(0);
        due("office()", o.x.office(), 2);
        for (int what = 0; what <= 8; what++) {
            due("count(" + what + ")", o.x.count(what), 0);
        }
        due("count(9)", o.x.count(9), 7);
        due("part(0)", o.x.part(0), 7);
        due("part(1)", o.x.part(1), 10);
        due("status(0)", o.x.status(0), 1);
        due("office()", o.x.office(), 0);
        due("from(0)", o.x.from(0), 1);
        due("count(0)", o.x.count(0), 2);
        due("clerk", o.x.clerk(0, 0, 1), 2);
        due("rust of one who comes", o.x.of(2, 3), 0);
    }

    private static void clerk() {
        Office o = promise(3, new Office());
        due("clerk", o.x.clerk(0, 0, 1), 0);
        due("clerk", o.x.clerk(5, 11, 9), 1);
        o.x.day(1);
        due("count(8)", o.x.count(8), 1);
        o.bad("kind", () -> o.x.clerk(6, 0, 1));
        o.bad("kind", () -> o.x.clerk(-1, 0, 1));
        o.bad("desk", () -> o.x.clerk(0, 12, 1));
        o.bad("desk", () -> o.x.clerk(0, -1, 1));
        o.bad("weight", () -> o.x.clerk(0, 0, 0));
        o.bad("weight", () -> o.x.clerk(0, 0, 10));
        for (int far : FAR) {
            o.bad("kind", () -> o.x.clerk(far, 0, 1));
            o.bad("desk", () -> o.x.clerk(0, far, 1));
            o.bad("weight", () -> o.x.clerk(0, 0, far));
        }
        for (int c = 2; c < 7; c++) {
            due("clerk", o.x.clerk(1, c, c), c);
            due("undone behind a clerk", o.x.count(8), 0);
        }
        o.x.day(1);
        o.full("an 8th", () -> o.x.clerk(0, 0, 1));
        o.bad("an 8th, bad", () -> o.x.clerk(0, 0, 10));
        due("on", o.x.of(6, 4), -1);
    }

    private static void magnet() {
        Office o = promise(4, Office.with(0, 0, 1));
        due("magnet", o.x.magnet(0, 0, 1), 0);
        o.x.day(1);
        o.bad("kind", () -> o.x.magnet(6, 0, 1));
        o.bad("kind", () -> o.x.magnet(-1, 0, 1));
        o.bad("desk", () -> o.x.magnet(0, 12, 1));
        o.bad("desk", () -> o.x.magnet(0, -1, 1));
        o.bad("power", () -> o.x.magnet(0, 0, 0));
        o.bad("power", () -> o.x.magnet(0, 0, 10));
        for (int far : FAR) {
            o.bad("kind", () -> o.x.magnet(far, 0, 1));
            o.bad("desk", () -> o.x.magnet(0, far, 1));
            o.bad("power", () -> o.x.magnet(0, 0, far));
        }
        due("magnet", o.x.magnet(5, 11, 9), 1);
        o.no("undo() behind a magnet", () -> o.x.undo());
        due("magnet", o.x.magnet(3, 4, 5), 2);
        o.x.day(1);
        o.full("a 4th", () -> o.x.magnet(0, 0, 1));
        o.bad("a 4th, bad", () -> o.x.magnet(0, 0, 0));
        due("count(1)", o.x.count(1), 3);
    }

    private static void type() {
        Office o = promise(5, new Office());
        o.bad("type(-1)", () -> o.x.type(-1));
        o.bad("type(128)", () -> o.x.type(128));
        due("type(0)", o.x.type(0), 1);
        due("type(127)", o.x.type(127), 2);
        for (int k = 3; k <= 150; k++) {
            due("type", o.x.type(32), k);
        }
        o.full("a 151st", () -> o.x.type(32));
        o.bad("a 151st, bad", () -> o.x.type(128));
        due("count(9)", o.x.count(9), 150);
    }

    private static void clear() {
        Office o = promise(6, Office.with(0, 0, 1).text("office;clerk"));
        due("clear()", o.x.clear(), 12);
        due("count(9)", o.x.count(9), 0);
        due("count(0)", o.x.count(0), 1);
        due("clear()", o.x.clear(), 0);
        due("type", o.x.type(59), 1);
    }

    private static void reads(String text, int items) {
        Office o = lived();
        o.text(text);
        due("read() of " + text, o.x.read(), items);
    }

    private static void read() {
        Office o = promise(7, lived());
        o.x.image(1);
        o.x.magnet(0, 0, 1);
        o.text("  office ;clerk3 05 2; clerk 1 3 9 ;magnet 4 11 08;hook 1 0;days 3;clerk 0 0 1;  ");
        due("read()", o.x.read(), 7);
        due("count(0)", o.x.count(0), 3);
        due("count(1)", o.x.count(1), 1);
        due("count(2)", o.x.count(2), 3);
        due("count(3)", o.x.count(3), 1);
        // The turned magnet pushes the string of 11 by 18, 16 and 14, one desk on each day.
        due("count(4)", o.x.count(4), 0);
        for (int what = 5; what <= 8; what++) {
            due("count(" + what + ")", o.x.count(what), 0);
        }
        due("part(0)", o.x.part(0), 7);
        due("status(0)", o.x.status(0), 1);
        due("of(0, 0)", o.x.of(0, 0), 3);
        due("of(0, 1)", o.x.of(0, 1), 2);
        due("of(1, 1)", o.x.of(1, 1), 0);
        due("of(0, 2)", o.x.of(0, 2), 2);
        due("of(1, 4)", o.x.of(1, 4), 0);
        due("of(2, 3)", o.x.of(2, 3), 0);
        due("from(1)", o.x.from(1), 1);
        due("count(0)", o.x.count(0), 2);
        Office stood = new Office().text("office;clerk 0 5 1;days 4;magnet 0 11 9;days 2;clerk 0 5 2;days 1;");
        due("read()", stood.x.read(), 7);
        due("days go by where they stand", stood.x.of(0, 1), 8);
        due("days go by where they stand", stood.x.of(1, 1), 6);
        Office rusty = new Office().text("office;clerk 0 5 1;days 99;days 1;clerk 0 5 1;days 7;");
        due("read()", rusty.x.read(), 6);
        due("rust at most", rusty.x.of(0, 3), 99);
        due("rust", rusty.x.of(1, 3), 7);
        due("read() again", rusty.x.read(), 6);
        due("the same", rusty.x.count(0), 2);
        rusty.text("office;clerk 5 11 9;magnet 5 11 9;");
        due("read() of another", rusty.x.read(), 3);
        due("of(0, 0)", rusty.x.of(0, 0), 5);
        due("count(0)", rusty.x.count(0), 1);
        due("count(2)", rusty.x.count(2), 0);
        reads("office;", 1);
        reads("office;days99;days 1;", 3);
        reads("office;clerk 0 0 1;clerk 0 0 1;hook 0 1;", 4);
        String long150 = "office;" + "days99;".repeat(20) + "   ";
        reads(long150, 21);
        Office late = new Office().text(long150);
        due("read()", late.x.read(), 21);
        due("the last day", late.x.count(2), 999);
    }

    private static void fault(String text, int place) {
        Office o = lived();
        o.text(text);
        o.same("read() of " + text, () -> o.x.read(), -10 - place);
    }

    private static void readFaults() {
        promise(7, new Office());
        fault("", 0);
        fault("   ", 3);
        fault("office", 6);
        fault("office  ", 8);
        fault("offic", 0);
        fault(" offices;", 1);
        fault("xffice;", 0);
        fault("officx;", 0);
        fault("Office;", 0);
        fault("offIce;", 0);
        fault("clerk 0 0 1;", 0);
        fault(";", 0);
        fault("0;", 0);
        fault("office;;", 7);
        fault("office;office;", 7);
        fault("office 1;", 7);
        fault("office office", 7);
        fault("office;\t", 7);
        fault("office;-1", 7);
        fault("office;clerk 6 0 1;", 13);
        fault("office;clerk 0 12 1;", 15);
        fault("office;clerk 0 0 0;", 17);
        fault("office;clerk 0 0 10;", 17);
        fault("office;clerk 0 000 1;", 15);
        fault("office;clerk 0 0 1 1;", 19);
        fault("office;clerk 0 0;", 16);
        fault("office;clerk 0 0 1", 18);
        fault("office;clerk clerk", 13);
        fault("office;clerk00 1;", 16);
        fault("office;clerks 0 0 1;", 7);
        fault("office;" + "clerk0 0 1;".repeat(7) + "clerk", 84);
        fault("office;" + "magnet0 0 1;".repeat(3) + " magnet 9", 44);
        fault("office;magnet 6 0 1;", 14);
        fault("office;magnet 0 0 0;", 18);
        fault("office;hook 0 1;", 12);
        String two = "office;clerk0 0 1;clerk0 0 1;";
        fault(two + "hook 2 0;", 34);
        fault(two + "hook 0 0;", 36);
        fault(two + "hook 0 2;", 36);
        fault(two + "hook 0 1;hook 0 1;", 43);
        fault(two + "hook 0 1;hook 1 0;", 45);
        fault(two + "hook 0 1 0;", 38);
        String four = two + "clerk0 0 1;clerk0 0 1;hook0 3;hook1 3;";
        fault(four + "hook 2 3;", 74);
        fault(four + "hook 3 2;hook 2 0;", 83);
        fault("office;days 0;", 12);
        fault("office;days 100;", 12);
        fault("office;days 100", 12);
        fault("office;days 10", 14);
        fault("office;days;", 11);
        fault("office;day 1;", 7);
    }

    // ---- days

    private static void days() {
        hook();
        unbend();
        day();
        dayDraws();
        undo();
        undoEdges();
        of();
    }

    private static void hook() {
        Office o = promise(8, Office.ofKinds(0, 1, 2, 3, 4));
        due("hook", o.x.hook(1, 0), 2);
        due("hook", o.x.hook(2, 0), 3);
        due("hook", o.x.hook(3, 4), 2);
        due("on", o.x.of(1, 4), 0);
        due("count(8)", o.x.count(8), 3);
        o.bad("alike", () -> o.x.hook(4, 4));
        o.bad("not there", () -> o.x.hook(5, 0));
        o.bad("not there", () -> o.x.hook(0, 5));
        o.bad("below", () -> o.x.hook(-1, 0));
        o.bad("none", () -> o.x.hook(0, -1));
        o.no("on somebody", () -> o.x.hook(1, 2));
        o.no("on somebody, and two on j", () -> o.x.hook(3, 0));
        o.no("a ring", () -> o.x.hook(0, 2));
        o.full("two are on j", () -> o.x.hook(4, 0));
        due("hook", o.x.hook(4, 2), 5);
        o.no("a ring over three", () -> o.x.hook(0, 3));
        due("count(3)", o.x.count(3), 4);
        Office ring = Office.ofKinds(0, 0, 0).hooked(1, 0, 2, 0);
        ring.no("a ring, told ahead of full", () -> ring.x.hook(0, 1));
    }

    private static void unbend() {
        Office o = promise(9, Office.ofKinds(0, 1, 2).hooked(2, 1, 1, 0));
        o.bad("not there", () -> o.x.unbend(3));
        o.bad("none", () -> o.x.unbend(-1));
        o.no("on nobody", () -> o.x.unbend(0));
        due("unbend", o.x.unbend(2), 1);
        due("on", o.x.of(2, 4), -1);
        due("count(8)", o.x.count(8), 3);
        due("unbend", o.x.unbend(1), 0);
        o.no("on nobody now", () -> o.x.unbend(1));
        due("strings(0)", o.x.strings(0), 3);
    }

    private static void day() {
        Office o = promise(10, Office.with(0, 5, 1, 0, 9, 2));
        o.bad("day(0)", () -> o.x.day(0));
        o.bad("day(61)", () -> o.x.day(61));
        for (int far : FAR) {
            o.bad("day", () -> o.x.day(far));
        }
        due("day(60)", o.x.day(60), 0);
        due("count(2)", o.x.count(2), 60);
        due("count(8)", o.x.count(8), 1);
        due("rust", o.x.of(0, 3), 60);
        due("day(60)", o.x.day(60), 0);
        due("rust at most", o.x.of(0, 3), 99);
        due("count(4)", o.x.count(4), 198);
        for (int k = 2; k < 16; k++) {
            o.x.day(60);
        }
        due("count(2)", o.x.count(2), 960);
        o.x.magnet(0, 11, 9);
        due("day(60)", o.x.day(60), 0);
        due("count(2)", o.x.count(2), 999);
        due("count(8)", o.x.count(8), 1);
        due("desk", o.x.of(0, 1), 11);
        o.x.office();
        due("day(1)", o.x.day(1), 0);
    }

    /** By hand: a plain magnet of power 9 at desk 11 pulls one at 5 by 12, one at 9 by 16. */
    private static void dayDraws() {
        Office o = promise(10, Office.with(0, 5, 9, 0, 9, 9));
        o.x.magnet(0, 11, 9);
        due("day", o.x.day(1), 2);
        due("desk", o.x.of(0, 1), 6);
        due("desk", o.x.of(1, 1), 10);
        o.x.hook(0, 1);
        due("string(0, 3)", o.x.string(0, 3), 13 + 17);
        due("day", o.x.day(1), 1);
        due("desk", o.x.of(1, 1), 11);
        due("string(0, 3), its own desk", o.x.string(0, 3), 14);
        due("day: too heavy", o.x.day(1), 0);
        due("rust", o.x.of(1, 3), 1);
        Office just = Office.with(0, 0, 7);
        just.x.magnet(0, 11, 9);
        due("as much as it weighs", just.x.day(1), 1);
        Office less = Office.with(0, 0, 8);
        less.x.magnet(0, 11, 9);
        due("less than it weighs", less.x.day(1), 0);
        Office left = Office.with(0, 3, 2);
        left.x.magnet(0, 0, 9);
        due("the last of three days", left.x.day(3), 1);
        due("desk", left.x.of(0, 1), 0);
        due("at the magnet", left.x.day(1), 0);
        due("rust", left.x.of(0, 3), 1);
        Office wall = Office.with(0, 5, 1, 0, 0, 1).hooked(0, 1);
        wall.x.magnet(4, 11, 9);
        due("one would leave", wall.x.day(1), 0);
        due("desk", wall.x.of(0, 1), 5);
        due("rust", wall.x.of(0, 3), 1);
        Office first = Office.with(0, 0, 1, 0, 5, 1).hooked(0, 1);
        first.x.magnet(4, 11, 9);
        due("the first would leave", first.x.day(1), 0);
        due("desk", first.x.of(1, 1), 5);
        Office cold = Office.with(0, 0, 1);
        cold.x.magnet(3, 11, 9);
        due("cold, even", cold.x.day(1), 1);
        due("cold, odd", cold.x.day(1), 0);
        due("cold, even", cold.x.day(1), 1);
    }

    private static void undo() {
        Office o = promise(11, Office.with(0, 0, 1, 1, 5, 1));
        o.no("undo()", () -> o.x.undo());
        due("magnet", o.x.magnet(0, 11, 9), 0);
        long first = o.x.digest();
        o.x.day(2);
        long second = o.x.digest();
        o.x.hook(0, 1);
        long third = o.x.digest();
        o.x.day(3);
        o.x.unbend(0);
        due("count(8)", o.x.count(8), 4);
        due("undo()", o.x.undo(), 5);
        due("on", o.x.of(0, 4), 1);
        due("undo()", o.x.undo(), 2);
        due("digest()", o.x.digest(), third);
        due("undo()", o.x.undo(), 2);
        due("digest()", o.x.digest(), second);
        due("undo()", o.x.undo(), 0);
        due("digest()", o.x.digest(), first);
        o.no("undo()", () -> o.x.undo());
    }

    private static void undoEdges() {
        Office o = promise(11, Office.ofKinds(0, 0));
        for (int k = 1; k <= 10; k++) {
            o.x.day(k);
        }
        due("count(8)", o.x.count(8), 8);
        o.x.told(0, 1, 1, 0);
        int[] days = {45, 36, 28, 21, 15, 10, 6, 3};
        for (int then : days) {
            due("undo()", o.x.undo(), then);
            due("rust", o.x.of(1, 3), then);
        }
        o.no("undo()", () -> o.x.undo());
        due("told stay", o.x.count(5), 1);
        undoSeven();
        Office late = Office.ofKinds(0);
        for (int k = 0; k < 17; k++) {
            late.x.day(60);
        }
        due("none goes by", late.x.day(60), 0);
        due("undo()", late.x.undo(), 999);
        due("undo()", late.x.undo(), 960);
    }

    /** Each of seven has a desk, a rust and one it is on of its own to go back to. */
    private static void undoSeven() {
        Office o = Office.with(0, 0, 1, 0, 1, 9, 0, 2, 1, 0, 3, 9, 0, 4, 1, 0, 5, 9, 0, 6, 1);
        o.x.magnet(0, 11, 4);
        List<List<Integer>> before = new ArrayList<>();
        int[][] hooks = {{6, 5}, {5, 3}, {3, 1}, {4, 2}};
        for (int[] hook : hooks) {
            before.add(whatIsUndone(o.x));
            o.x.day(hook[1]);
            before.add(whatIsUndone(o.x));
            o.hooked(hook);
        }
        due("count(8)", o.x.count(8), 8);
        for (int k = 7; k >= 0; k--) {
            due("undo()", o.x.undo(), before.get(k).get(0));
            due("all is as ahead of it", whatIsUndone(o.x).equals(before.get(k)) ? 1 : 0, 1);
        }
    }

    /** The DAY, then DESK, RUST and ON of each CLERK. */
    private static List<Integer> whatIsUndone(ClerkChains x) {
        List<Integer> all = new ArrayList<>(List.of(x.count(2)));
        for (int c = 0; c < x.count(0); c++) {
            all.addAll(List.of(x.of(c, 1), x.of(c, 3), x.of(c, 4)));
        }
        return all;
    }

    private static void of() {
        Office o = promise(12, Office.with(5, 11, 9, 3, 2, 4).hooked(1, 0));
        o.x.day(1);
        int[][] due = {{5, 11, 9, 1, -1}, {3, 2, 4, 1, 0}};
        for (int c = 0; c < 2; c++) {
            for (int what = 0; what < 5; what++) {
                int who = c;
                int which = what;
                o.same("of(" + c + ", " + what + ")", () -> o.x.of(who, which), due[c][what]);
            }
        }
        o.bad("not there", () -> o.x.of(2, 0));
        o.bad("none", () -> o.x.of(-1, 0));
        o.bad("what", () -> o.x.of(0, 5));
        o.bad("what", () -> o.x.of(0, -1));
    }

    // ---- tugs

    private static void tugs() {
        felt();
        kindsOfClerks();
        least();
        quiet();
        string();
        strings();
        then();
        lunch();
        free();
        caught();
    }

    private static void felt() {
        // 1 and 2 are ON 0, 3 is ON 2.
        Office o = promise(13, Office.ofKinds(0, 2, 5, 3).hooked(1, 0, 2, 0, 3, 2));
        o.same("felt by itself", () -> o.x.felt(0, 9, 0), 9);
        o.same("plain", () -> o.x.felt(0, 9, 1), 8);
        o.same("plain, minister", () -> o.x.felt(0, 9, 3), 16);
        o.same("bright, plain", () -> o.x.felt(1, 9, 2), 8);
        o.same("minister at most", () -> o.x.felt(2, 11, 0), 20);
        o.same("bent", () -> o.x.felt(3, 9, 2), 4);
        o.same("bent to none", () -> o.x.felt(3, 2, 2), 0);
        o.same("all who feel it", () -> o.x.felt(0, 9, -1), 15);
        o.same("plain to none", () -> o.x.felt(0, 1, -1), 1);
        o.same("bright, then none", () -> o.x.felt(1, 1, -1), 3);
        Office apart = Office.ofKinds(5, 5);
        apart.same("another string", () -> apart.x.felt(0, 20, 1), 0);
        apart.same("another string", () -> apart.x.felt(0, 20, -1), 1);
        o.bad("not there", () -> o.x.felt(4, 1, 0));
        o.bad("none", () -> o.x.felt(-1, 1, 0));
        o.bad("tug", () -> o.x.felt(0, 0, 0));
        o.bad("tug", () -> o.x.felt(0, 21, 0));
        o.bad("not there", () -> o.x.felt(0, 1, 4));
        o.bad("below none", () -> o.x.felt(0, 1, -2));
    }

    private static int goesOn(int kind, int t, int rust) {
        Office o = Office.ofKinds(kind, 0);
        if (rust > 0) {
            o.x.day(rust);
        }
        o.x.hook(0, 1);
        return o.x.felt(0, t, 1);
    }

    private static void kindsOfClerks() {
        promise(13, new Office());
        int[][] due = {
            {0, 1, 0, 0}, {0, 20, 9, 19},
            {1, 9, 0, 8}, {1, 9, 3, 5}, {1, 9, 4, 4}, {1, 9, 5, 4}, {1, 9, 60, 4}, {1, 3, 3, 0}, {1, 4, 4, 0},
            {2, 1, 0, 1}, {2, 20, 9, 20},
            {3, 20, 0, 9}, {3, 9, 0, 4}, {3, 9, 1, 3}, {3, 2, 0, 0}, {3, 1, 9, 0},
            {4, 4, 0, 0}, {4, 5, 0, 4}, {4, 20, 9, 19},
            {5, 1, 0, 2}, {5, 10, 0, 20}, {5, 11, 0, 20}, {5, 9, 9, 18},
        };
        for (int[] row : due) {
            due("kind " + row[0] + " of " + row[1] + " with rust " + row[2], goesOn(row[0], row[1], row[2]), row[3]);
        }
    }

    private static void least() {
        Office o = promise(14, Office.ofKinds(0, 4, 3, 0, 0).hooked(1, 0, 2, 1, 3, 2));
        o.same("itself", () -> o.x.least(0, 0), 1);
        o.same("plain", () -> o.x.least(0, 1), 2);
        o.same("plain, copper", () -> o.x.least(0, 2), 6);
        o.same("plain, copper, bent", () -> o.x.least(0, 3), 6);
        o.same("plain, bent, copper", () -> o.x.least(3, 0), 12);
        o.same("none", () -> o.x.least(0, 4), -1);
        // With RUST of 4 or more 20 becomes 19, 7, 1; 19 becomes 18, 6, none.
        Office rusty = Office.ofKinds(0, 3, 3, 0);
        rusty.x.day(4);
        rusty.hooked(1, 0, 2, 1, 3, 2);
        rusty.same("the greatest tug", () -> rusty.x.least(0, 3), 20);
        o.bad("not there", () -> o.x.least(5, 0));
        o.bad("not there", () -> o.x.least(0, 5));
        o.bad("none", () -> o.x.least(-1, 0));
        o.bad("none", () -> o.x.least(0, -1));
        // Bent on bent on bent: 20 becomes 9, 4, 1.
        Office dull = Office.ofKinds(3, 3, 3, 3, 0).hooked(0, 1, 1, 2, 2, 3, 3, 4);
        dull.same("the greatest tug is not enough", () -> dull.x.least(0, 4), -1);
        dull.same("15 becomes 7, 3, 1", () -> dull.x.least(0, 3), 15);
        dull.same("14 becomes 6, 2, none", () -> dull.x.felt(0, 14, 3), 0);
    }

    private static void quiet() {
        // A chain 0 - 1 - 2 of plain ones.
        Office o = promise(15, Office.ofKinds(0, 0, 0).hooked(1, 0, 2, 1));
        o.same("nobody is told", () -> o.x.quiet(2, 0), 102);
        o.same("itself is told", () -> o.x.quiet(2, 4), -1);
        o.same("others are told", () -> o.x.quiet(2, 3), 102);
        o.same("the first", () -> o.x.quiet(0, 6), 100);
        // 1 is bright: it never has a tug for itself, but 0 hands nothing of 1 on.
        Office two = Office.ofKinds(0, 2, 0).hooked(1, 0);
        two.same("felt there, not there", () -> two.x.quiet(1, 1), -1);
        two.same("felt there, not there", () -> two.x.quiet(0, 2), 100);
        two.same("like ones: the first", () -> two.x.quiet(0, 0), 100);
        two.same("others of another string", () -> two.x.quiet(1, 4), 101);
        Office ends = Office.ofKinds(2, 2).hooked(1, 0);
        ends.same("like ones: the first", () -> ends.x.quiet(1, 0), 100);
        o.bad("not there", () -> o.x.quiet(3, 0));
        o.bad("none", () -> o.x.quiet(-1, 0));
        o.bad("one told is not there", () -> o.x.quiet(0, 8));
        o.bad("below", () -> o.x.quiet(0, -1));
        o.same("all are told", () -> o.x.quiet(0, 7), -1);
        Office seven = Office.ofKinds(0, 0, 0, 0, 0, 0, 0);
        seven.same("seven are told", () -> seven.x.quiet(0, 127), -1);
        seven.bad("an eighth is told", () -> seven.x.quiet(0, 128));
    }

    private static void string() {
        // 1 and 2 are ON 0, 3 is ON 1, 4 on 2; 5 is alone.
        Office o = promise(16, Office.with(0, 0, 1, 0, 1, 2, 0, 2, 3, 0, 3, 4, 0, 4, 5, 0, 11, 9)
                .hooked(1, 0, 2, 0, 3, 1, 4, 2));
        o.x.magnet(0, 2, 2);
        int[][] due = {{0, 31, 15, 5}, {3, 31, 15, 5}, {5, 32, 9, 1}};
        for (int[] row : due) {
            for (int what = 0; what < 3; what++) {
                int which = what;
                o.same("string(" + row[0] + ", " + what + ")", () -> o.x.string(row[0], which), row[what + 1]);
            }
        }
        // 2 from 0, 3 from 1, none from 2, less 3 from 3, less 2 from 4.
        o.same("drawn", () -> o.x.string(0, 3), 0);
        o.same("too far", () -> o.x.string(5, 3), 0);
        Office wide = Office.ofKinds(0, 0, 0, 0).hooked(1, 0, 2, 0, 3, 1);
        wide.same("longest over a fork", () -> wide.x.string(2, 2), 4);
        Office twig = Office.ofKinds(0, 0, 0, 0, 0).hooked(1, 0, 2, 1, 3, 1, 4, 0);
        twig.same("longest beside a twig", () -> twig.x.string(2, 2), 4);
        Office straight = Office.ofKinds(0, 0, 0, 0).hooked(0, 1, 1, 2, 2, 3);
        straight.same("longest from the first", () -> straight.x.string(1, 2), 4);
        o.refused(Office.BAD, "not there", () -> o.x.string(6, 0), -1000);
        o.refused(Office.BAD, "none", () -> o.x.string(-1, 0), -1000);
        o.refused(Office.BAD, "what", () -> o.x.string(0, 4), -1000);
        o.refused(Office.BAD, "what", () -> o.x.string(0, -1), -1000);
        kindsOfMagnets();
    }

    private static int drawn(int kind, int power, int far, int day) {
        Office o = Office.with(0, 11 - far, 9);
        if (day > 0) {
            o.x.day(day);
        }
        o.x.magnet(kind, 11, power);
        return o.x.string(0, 3);
    }

    private static void kindsOfMagnets() {
        int[][] due = {
            {0, 9, 1, 0, 17}, {0, 1, 2, 0, 0}, {0, 1, 11, 0, 0}, {0, 5, 0, 0, 0},
            {1, 9, 2, 0, 32}, {1, 9, 3, 0, 15}, {1, 1, 1, 0, 2}, {1, 1, 2, 0, 0},
            {2, 9, 2, 0, 8}, {2, 9, 3, 0, 8}, {2, 9, 1, 1, 9}, {2, 1, 2, 0, 0},
            {3, 9, 1, 0, 9}, {3, 9, 1, 1, 0}, {3, 9, 1, 2, 9},
            {4, 9, 1, 0, -17}, {4, 1, 3, 0, 0},
            {5, 9, 1, 0, 37}, {5, 9, 3, 0, 18}, {5, 1, 2, 0, 0}, {5, 1, 1, 0, 5}, {5, 2, 3, 1, 4},
        };
        for (int[] row : due) {
            due("magnet of kind " + row[0] + ", power " + row[1] + ", far " + row[2] + ", day " + row[3],
                    drawn(row[0], row[1], row[2], row[3]), row[4]);
        }
        Office left = Office.with(0, 3, 1);
        left.x.magnet(0, 1, 9);
        left.x.magnet(4, 0, 5);
        due("to the left, and pushed", left.x.string(0, 3), -16 + 7);
    }

    private static void strings() {
        Office o = promise(17, new Office());
        o.same("strings(0)", () -> o.x.strings(0), 0);
        o.same("strings(1)", () -> o.x.strings(1), 0);
        Office some = Office.ofKinds(0, 0, 0, 0, 0, 0, 0).hooked(1, 0, 2, 1, 3, 1, 5, 4);
        some.same("strings(0)", () -> some.x.strings(0), 3);
        some.same("strings(1)", () -> some.x.strings(1), 1 + 4 + 8 + 16 + 32 + 64);
        Office chain = Office.ofKinds(0, 0, 0, 0).hooked(0, 1, 1, 2);
        chain.same("one with two hooks is no end", () -> chain.x.strings(1), 1 + 4 + 8);
        Office fork = Office.ofKinds(0, 0, 0).hooked(1, 0, 2, 0);
        fork.same("two on it, on nobody", () -> fork.x.strings(1), 2 + 4);
        o.bad("what", () -> o.x.strings(2));
        o.bad("what", () -> o.x.strings(-1));
    }

    private static void then() {
        Office o = promise(18, Office.with(0, 0, 1, 0, 3, 2));
        o.x.magnet(3, 11, 9);
        o.same("today", () -> o.x.then(0, 0), 0);
        o.same("one day", () -> o.x.then(0, 1), 1);
        o.same("two days", () -> o.x.then(0, 2), 1);
        o.same("sixty days", () -> o.x.then(0, 60), 11);
        o.same("another", () -> o.x.then(1, 5), 6);
        o.bad("not there", () -> o.x.then(2, 0));
        o.bad("none", () -> o.x.then(-1, 0));
        o.bad("days", () -> o.x.then(0, 61));
        o.bad("days", () -> o.x.then(0, -1));
        Office late = Office.with(0, 0, 1);
        for (int k = 0; k < 17; k++) {
            late.x.day(60);
        }
        late.x.magnet(3, 11, 9);
        late.same("day 999 is odd", () -> late.x.then(0, 1), 0);
        late.same("days beyond 999", () -> late.x.then(0, 4), 2);
    }

    private static void lunch() {
        Office o = promise(19, new Office());
        o.same("nobody", () -> o.x.lunch(1), 0);
        // Strings of 3, 2 and 2.
        Office some = Office.ofKinds(0, 0, 0, 0, 0, 0, 0).hooked(1, 0, 2, 1, 4, 3, 6, 5);
        some.same("too long", () -> some.x.lunch(2), -1);
        some.same("each alone", () -> some.x.lunch(3), 3);
        some.same("two at one", () -> some.x.lunch(4), 2);
        some.same("two at one", () -> some.x.lunch(6), 2);
        some.same("all at one", () -> some.x.lunch(7), 1);
        // Strings of 3, 3 and 1 need two tables for 4.
        Office threes = Office.ofKinds(0, 0, 0, 0, 0, 0, 0).hooked(1, 0, 2, 1, 4, 3, 5, 4);
        threes.same("two and one", () -> threes.x.lunch(4), 2);
        due("office()", threes.x.office(), 7);
        due("clerk", threes.x.clerk(0, 0, 1), 0);
        threes.same("one alone, where there were long ones", () -> threes.x.lunch(1), 1);
        Office ones = Office.ofKinds(0, 0, 0, 0, 0, 0, 0);
        ones.same("seven tables", () -> ones.x.lunch(1), 7);
        ones.same("four tables", () -> ones.x.lunch(2), 4);
        o.bad("lunch(0)", () -> o.x.lunch(0));
        o.bad("lunch(8)", () -> o.x.lunch(8));
        for (int far : FAR) {
            o.bad("lunch", () -> o.x.lunch(far));
        }
    }

    private static void free() {
        Office o = promise(20, new Office());
        o.same("nobody", () -> o.x.free(1), 0);
        // A chain of weights 3, 3, 3, 3: 1 is ON 0, 2 ON 1, 3 ON 2.
        Office chain = Office.with(0, 0, 3, 0, 0, 3, 0, 0, 3, 0, 0, 3).hooked(1, 0, 2, 1, 3, 2);
        chain.same("not to heavy", () -> chain.x.free(12), 0);
        chain.same("like ones: the least", () -> chain.x.free(11), 2);
        chain.same("like ones: the least", () -> chain.x.free(9), 2);
        chain.same("the middle one", () -> chain.x.free(8), 4);
        chain.same("the middle one", () -> chain.x.free(6), 4);
        chain.same("all", () -> chain.x.free(5), 14);
        chain.same("all", () -> chain.x.free(3), 14);
        chain.same("one is too heavy", () -> chain.x.free(2), -1);
        chain.same("free(63)", () -> chain.x.free(63), 0);
        Office up = Office.with(0, 0, 5, 0, 0, 4).hooked(0, 1);
        up.same("the first is unbent", () -> up.x.free(8), 1);
        o.bad("free(0)", () -> o.x.free(0));
        o.bad("free(64)", () -> o.x.free(64));
        for (int far : FAR) {
            o.bad("free", () -> o.x.free(far));
        }
    }

    private static void caught() {
        // 1 and 2 are ON 0; 3 is ON 1; 4 is alone.
        Office o = promise(21, Office.ofKinds(0, 0, 0, 0, 0).hooked(1, 0, 2, 0, 3, 1));
        o.same("not on one with two", () -> o.x.caught(4), 2 + 4 + 8);
        o.same("not on those on it", () -> o.x.caught(0), 16);
        o.no("on somebody", () -> o.x.caught(3));
        o.bad("not there", () -> o.x.caught(5));
        o.bad("none", () -> o.x.caught(-1));
        Office alone = Office.ofKinds(0);
        alone.same("alone", () -> alone.x.caught(0), 0);
    }

    // ---- who was on whom

    private static void whoWasOnWhom() {
        told();
        found();
        note();
        mark();
        forget();
        is();
        look();
        kinds();
        ask();
        lifts();
        slips();
        decades();
    }

    private static void told() {
        Office o = promise(22, Office.ofKinds(0, 0));
        due("told", o.x.told(0, 1, 1, 0), 1);
        due("told", o.x.told(1, 20, 1, 20), 2);
        o.bad("not there", () -> o.x.told(2, 1, 0, 0));
        o.bad("none", () -> o.x.told(-1, 1, 0, 0));
        o.bad("tug", () -> o.x.told(0, 0, 0, 0));
        o.bad("tug", () -> o.x.told(0, 21, 0, 0));
        o.bad("not there", () -> o.x.told(0, 1, 2, 0));
        o.bad("none", () -> o.x.told(0, 1, -1, 0));
        o.bad("felt", () -> o.x.told(0, 1, 0, 21));
        o.bad("felt", () -> o.x.told(0, 1, 0, -1));
        for (int k = 3; k <= 5; k++) {
            due("told", o.x.told(0, 1, 1, 0), k);
        }
        o.full("a 6th", () -> o.x.told(0, 1, 1, 0));
        o.bad("a 6th, bad", () -> o.x.told(0, 1, 1, 21));
        due("count(5)", o.x.count(5), 5);
    }

    private static void found() {
        // 0 plain, 1 bright, 2 minister; all alone.
        Office o = promise(23, Office.ofKinds(0, 2, 5));
        o.same("nothing is told", () -> o.x.found(0), 128 + 2 + 4);
        o.x.told(2, 3, 0, 6);
        o.same("on the minister", () -> o.x.found(0), 4);
        o.same("the minister on it", () -> o.x.found(2), 1);
        o.x.told(1, 3, 0, 0);
        o.same("and not on the bright one", () -> o.x.found(0), 4);
        o.x.told(0, 2, 1, 1);
        o.same("none", () -> o.x.found(0), 0);
        o.x.forget(0);
        o.x.told(0, 9, 1, 0);
        o.same("on nobody", () -> o.x.found(0), 128 + 4);
        o.x.hook(0, 1);
        o.no("on somebody", () -> o.x.found(0));
        o.bad("not there", () -> o.x.found(3));
        o.bad("none", () -> o.x.found(-1));
        o.same("those on it are no choice", () -> o.x.found(1), 0);
    }

    private static void note() {
        Office o = promise(24, Office.ofKinds(0));
        due("note", o.x.note(0, 1, 0, 0), 1);
        due("note", o.x.note(0, 20, 99, 20), 2);
        o.bad("not there", () -> o.x.note(1, 1, 0, 0));
        o.bad("none", () -> o.x.note(-1, 1, 0, 0));
        o.bad("tug", () -> o.x.note(0, 0, 0, 0));
        o.bad("tug", () -> o.x.note(0, 21, 0, 0));
        o.bad("rust", () -> o.x.note(0, 1, -1, 0));
        o.bad("rust", () -> o.x.note(0, 1, 100, 0));
        o.bad("goes on", () -> o.x.note(0, 1, 0, -1));
        o.bad("goes on", () -> o.x.note(0, 1, 0, 21));
        for (int k = 3; k <= 6; k++) {
            due("note", o.x.note(0, 1, 0, 0), k);
        }
        o.full("a 7th", () -> o.x.note(0, 1, 0, 0));
        o.bad("a 7th, bad", () -> o.x.note(0, 1, 0, 21));
    }

    private static void mark() {
        Office o = promise(25, new Office());
        o.bad("not there", () -> o.x.mark(0, 1, 0, 0, 0));
        o.x.magnet(0, 0, 1);
        due("mark", o.x.mark(0, 1, 0, 0, -40), 1);
        due("mark", o.x.mark(0, 9, 11, 99, 40), 2);
        o.bad("not there", () -> o.x.mark(1, 1, 0, 0, 0));
        o.bad("none", () -> o.x.mark(-1, 1, 0, 0, 0));
        o.bad("power", () -> o.x.mark(0, 0, 0, 0, 0));
        o.bad("power", () -> o.x.mark(0, 10, 0, 0, 0));
        o.bad("far", () -> o.x.mark(0, 1, -1, 0, 0));
        o.bad("far", () -> o.x.mark(0, 1, 12, 0, 0));
        o.bad("day", () -> o.x.mark(0, 1, 0, -1, 0));
        o.bad("day", () -> o.x.mark(0, 1, 0, 100, 0));
        o.bad("pull", () -> o.x.mark(0, 1, 0, 0, -41));
        o.bad("pull", () -> o.x.mark(0, 1, 0, 0, 41));
        for (int k = 3; k <= 6; k++) {
            due("mark", o.x.mark(0, 1, 2, 3, 4), k);
        }
        o.full("a 7th", () -> o.x.mark(0, 1, 0, 0, 0));
        o.bad("a 7th, bad", () -> o.x.mark(0, 1, 0, 0, 41));
    }

    private static void forget() {
        Office o = promise(26, lived());
        o.x.told(0, 1, 1, 1);
        o.x.note(0, 1, 2, 3);
        o.x.note(0, 1, 2, 3);
        o.x.mark(0, 1, 2, 3, 4);
        o.x.mark(0, 1, 2, 3, 4);
        o.x.mark(0, 1, 2, 3, 4);
        o.bad("what", () -> o.x.forget(3));
        o.bad("what", () -> o.x.forget(-1));
        due("forget(0)", o.x.forget(0), 2);
        due("count(5)", o.x.count(5), 0);
        due("count(6)", o.x.count(6), 3);
        due("forget(1)", o.x.forget(1), 3);
        due("count(6)", o.x.count(6), 0);
        due("count(7)", o.x.count(7), 4);
        due("forget(2)", o.x.forget(2), 4);
        due("count(7)", o.x.count(7), 0);
        due("forget(2)", o.x.forget(2), 0);
        due("count(8)", o.x.count(8), 1);
    }

    private static void is() {
        Office o = promise(27, Office.ofKinds(0, 0));
        o.same("no notes", () -> o.x.is(0), 63);
        o.x.note(0, 9, 0, 8);
        o.same("plain, rusty, copper", () -> o.x.is(0), 1 + 2 + 16);
        o.same("notes of another", () -> o.x.is(1), 63);
        o.x.note(0, 4, 1, 2);
        o.same("rusty", () -> o.x.is(0), 2);
        o.x.note(0, 4, 1, 3);
        o.same("none", () -> o.x.is(0), 0);
        o.x.note(1, 20, 5, 20);
        o.same("bright, minister", () -> o.x.is(1), 4 + 32);
        o.bad("not there", () -> o.x.is(2));
        o.bad("none", () -> o.x.is(-1));
    }

    private static void look() {
        Office o = promise(28, Office.ofKinds(0, 0));
        // 4 and 1: plain 3, rusty 2, bright 4, bent 1, copper 0, minister 8.
        o.same("all kinds", () -> o.x.look(0), 41);
        o.x.note(0, 9, 0, 8);
        // Of plain, rusty, copper: at 3 and 1 they let go 2, 1, 0; at 2 and below two are alike.
        o.same("three kinds", () -> o.x.look(0), 31);
        o.x.note(0, 9, 1, 8);
        o.same("plain, copper", () -> o.x.look(0), 20);
        o.x.note(0, 4, 0, 3);
        o.same("plain alone", () -> o.x.look(0), 10);
        o.same("another", () -> o.x.look(1), 41);
        o.x.note(0, 4, 0, 4);
        o.same("no kind", () -> o.x.look(0), -1);
        o.bad("not there", () -> o.x.look(2));
        o.bad("none", () -> o.x.look(-1));
    }

    private static void kinds() {
        Office o = promise(29, new Office());
        o.bad("not there", () -> o.x.kinds(0));
        o.x.magnet(0, 0, 9);
        o.x.magnet(0, 0, 9);
        o.same("no marks", () -> o.x.kinds(0), 63);
        o.x.mark(0, 3, 4, 1, 2);
        o.same("plain, horseshoe", () -> o.x.kinds(0), 1 + 2);
        o.same("marks of another", () -> o.x.kinds(1), 63);
        o.x.mark(0, 3, 2, 0, 8);
        o.same("horseshoe", () -> o.x.kinds(0), 2);
        o.x.mark(0, 3, 2, 0, 4);
        o.same("none", () -> o.x.kinds(0), 0);
        o.x.mark(1, 3, 4, 2, 1);
        o.same("keeper, cold", () -> o.x.kinds(1), 4 + 8);
        o.bad("not there", () -> o.x.kinds(2));
        o.bad("none", () -> o.x.kinds(-1));
    }

    private static void ask() {
        Office o = promise(30, new Office());
        o.bad("not there", () -> o.x.ask(0));
        o.x.magnet(0, 0, 1);
        o.x.magnet(0, 0, 9);
        o.same("all kinds", () -> o.x.ask(1), 100);
        o.x.mark(0, 3, 4, 1, 2);
        o.same("plain, horseshoe", () -> o.x.ask(0), 0);
        o.x.mark(1, 3, 4, 2, 1);
        o.same("keeper, cold", () -> o.x.ask(1), 100);
        o.x.mark(1, 3, 4, 1, 0);
        o.same("cold alone", () -> o.x.ask(1), 0);
        o.x.mark(1, 3, 4, 1, 1);
        o.same("no kind", () -> o.x.ask(1), -1);
        o.bad("not there", () -> o.x.ask(2));
        o.bad("none", () -> o.x.ask(-1));
        // With power 1: at 0 far keeper and cold are alike, on day 1 none of all is.
        o.x.forget(2);
        o.same("by its own power", () -> o.x.ask(0), 100);
    }

    private static void lifts() {
        Office o = promise(31, Office.with(0, 0, 9, 0, 0, 3, 0, 0, 1));
        // 9 against 3: thirds 3 and 1. With i 3 and j 0 the second would lift with 4, at 3 less 4.
        o.same("how many", () -> o.x.lifts(0, 1, -1), 1);
        o.same("the first", () -> o.x.lifts(0, 1, 0), 30);
        o.same("not so many", () -> o.x.lifts(0, 1, 1), -5);
        o.same("not so many", () -> o.x.lifts(0, 1, Integer.MAX_VALUE), -5);
        // 3 against 9: the second lifts with 3; the first would need 3 and get 0 at that: none the more.
        o.same("how many", () -> o.x.lifts(1, 0, -1), 1);
        o.same("the first", () -> o.x.lifts(1, 0, 0), 3);
        // 1 against 1: i 1 and j 0 rests, as does i 0 and j 1.
        Office light = Office.with(0, 0, 1, 0, 0, 1);
        light.same("how many", () -> light.x.lifts(0, 1, -1), 3);
        light.same("the first", () -> light.x.lifts(0, 1, 0), 0);
        light.same("the second", () -> light.x.lifts(0, 1, 1), 1);
        light.same("the third", () -> light.x.lifts(0, 1, 2), 10);
        light.same("not so many", () -> light.x.lifts(0, 1, 3), -5);
        o.x.hook(1, 2);
        o.same("one string", () -> o.x.lifts(1, 2, -1), 0);
        liftsOfHeavyOnes();
        o.refused(Office.BAD, "alike", () -> o.x.lifts(0, 0, -1), -10);
        o.refused(Office.BAD, "not there", () -> o.x.lifts(3, 0, -1), -10);
        o.refused(Office.BAD, "not there", () -> o.x.lifts(0, 3, -1), -10);
        o.refused(Office.BAD, "none", () -> o.x.lifts(-1, 0, -1), -10);
        o.refused(Office.BAD, "k", () -> o.x.lifts(0, 1, -2), -10);
        o.refused(Office.BAD, "k", () -> o.x.lifts(0, 1, Integer.MIN_VALUE), -10);
    }

    /** A string of three and one of one: a third of 27 is as many hands as there are, of 28 more. */
    private static void liftsOfHeavyOnes() {
        Office most = Office.with(0, 0, 9, 0, 0, 9, 0, 0, 9, 0, 0, 1).hooked(1, 0, 2, 1);
        most.same("27 and 1", () -> most.x.lifts(2, 3, -1), 1);
        most.same("27 and 1", () -> most.x.lifts(2, 3, 0), 90);
        most.same("1 and 27", () -> most.x.lifts(3, 2, -1), 1);
        most.same("1 and 27", () -> most.x.lifts(3, 2, 0), 9);
        most.x.clerk(0, 0, 1);
        most.hooked(4, 2);
        most.same("28 and 1", () -> most.x.lifts(2, 3, -1), 2);
        most.same("28 and 1", () -> most.x.lifts(2, 3, 0), 0);
        most.same("28 and 1", () -> most.x.lifts(2, 3, 1), 1);
        most.same("1 and 28", () -> most.x.lifts(3, 2, -1), 2);
        most.same("1 and 28", () -> most.x.lifts(3, 2, 1), 10);
        // At 0 and 8 the first would get 1 more by as many hands as the second has.
        Office like = Office.with(0, 0, 9, 0, 0, 9, 0, 0, 9, 0, 0, 6).hooked(2, 1, 3, 2);
        like.same("9 and 24", () -> like.x.lifts(0, 1, -1), 0);
        like.same("9 and 24", () -> like.x.lifts(0, 1, 0), -5);
    }

    private static void slipsTo(Office o, int[] args, int above, int below) {
        due("slips", o.x.slips(args[0], args[1], args[2], args[3]), 1);
        due("above", o.x.part(0), above);
        due("below", o.x.part(1), below);
    }

    private static void slips() {
        Office o = promise(32, Office.ofKinds(2, 2, 2, 2, 2, 2, 2).hooked(0, 1, 1, 2, 2, 3, 3, 4, 4, 5, 5, 6));
        slipsTo(o, new int[] {0, 1, 6, 1}, 531441, 1000000);
        slipsTo(o, new int[] {0, 1, 6, 4}, 729, 15625);
        slipsTo(o, new int[] {0, 1, 6, 5}, 1, 64);
        slipsTo(o, new int[] {6, 1, 0, 0}, 1, 1);
        slipsTo(o, new int[] {6, 1, 0, 10}, 0, 1);
        slipsTo(o, new int[] {3, 1, 3, 10}, 1, 1);
        slipsTo(o, new int[] {3, 1, 1, 2}, 16, 25);
        o.bad("not there", () -> o.x.slips(7, 1, 0, 0));
        o.bad("none", () -> o.x.slips(-1, 1, 0, 0));
        o.bad("tug", () -> o.x.slips(0, 0, 0, 0));
        o.bad("tug", () -> o.x.slips(0, 21, 0, 0));
        o.bad("not there", () -> o.x.slips(0, 1, 7, 0));
        o.bad("none", () -> o.x.slips(0, 1, -1, 0));
        o.bad("odds", () -> o.x.slips(0, 1, 0, -1));
        o.bad("odds", () -> o.x.slips(0, 1, 0, 11));
        Office dull = Office.ofKinds(0, 0, 0).hooked(0, 1);
        slipsTo(dull, new int[] {0, 2, 1, 3}, 7, 10);
        slipsTo(dull, new int[] {0, 1, 1, 3}, 0, 1);
        slipsTo(dull, new int[] {0, 9, 2, 0}, 0, 1);
    }

    private static void decades() {
        Office o = promise(33, Office.ofKinds(2, 2, 2, 2, 2, 2, 2).hooked(1, 0, 2, 1));
        // SEED 0: X becomes 12345, a tug of 1 at CLERK 0; then 1406932606, a tug of 8 at CLERK 4
        // (21467 by 20 leaves 7, 1341 by 7 leaves 4).
        o.same("no day", () -> o.x.decades(0, 0), 0);
        o.same("one day", () -> o.x.decades(0, 1), 3);
        o.same("two days", () -> o.x.decades(0, 2), 4);
        o.same("the greatest", () -> o.x.decades(999999, 60), new Decades(999999).of(60));
        Office few = Office.ofKinds(2, 2, 2).hooked(1, 0, 2, 1);
        few.same("not there: none", () -> few.x.decades(0, 2), 3);
        // X is 2065694808, 88 above 1970 times 1048576; and 2043674520, 104 below 1949 times that.
        few.same("just above", () -> few.x.decades(37179, 1), 0);
        few.same("just below", () -> few.x.decades(1403, 1), 3);
        o.bad("seed", () -> o.x.decades(-1, 0));
        o.bad("seed", () -> o.x.decades(1000000, 0));
        o.bad("days", () -> o.x.decades(0, -1));
        o.bad("days", () -> o.x.decades(0, 61));
        decadesGoBy();
    }

    /** RUST grows, and magnets draw, as the DAYS of a DECADE go by. */
    private static void decadesGoBy() {
        for (int k = 0; k < 40; k++) {
            int seed = 999999 - 25641 * k;
            Office o = Office.ofKinds(1, 3, 1, 0, 4).hooked(1, 0, 2, 1, 3, 2, 4, 3);
            o.x.magnet(3, 11, 9);
            o.x.magnet(0, 0, 5);
            int all = o.x.decades(seed, 60);
            o.same("decades", () -> o.x.decades(seed, 60), all);
            due("day by day from " + seed, all, dayByDay(o.x, seed, 60));
        }
        Office late = Office.ofKinds(1, 1).hooked(1, 0);
        for (int k = 0; k < 17; k++) {
            late.x.day(60);
        }
        late.x.magnet(0, 11, 9);
        // Of SEED 37 a tug of 5 and one of 2 come to CLERK 1, on the 2nd and the 4th DAY; with RUST
        // of 99 neither would go on, but both go from the first DAY on.
        late.same("days beyond 999", () -> late.x.decades(37, 6), 4);
    }

    private static int dayByDay(ClerkChains x, int seed, int days) {
        long at = seed;
        int all = 0;
        for (int k = 0; k < days; k++) {
            at = (at * 1103515245L + 12345L) & 0x7fffffffL;
            int felt = x.felt((int) ((at >> 20) % 7), (int) ((at >> 16) % 20) + 1, -1);
            all += felt < 0 ? 0 : Integer.bitCount(felt);
            x.day(1);
        }
        return all;
    }

    /** By how many of seven, three of them together and bright, tugs of a SEED are FELT. */
    private static final class Decades {
        private long x;

        Decades(int seed) {
            x = seed;
        }

        int of(int days) {
            int all = 0;
            for (int k = 0; k < days; k++) {
                x = (x * 1103515245L + 12345L) & 0x7fffffffL;
                all += (x >> 20) % 7 < 3 ? 3 : 1;
            }
            return all;
        }
    }

    // ---- what there is

    private static void whatThereIs() {
        part();
        image();
        from();
        status();
        count();
        digest();
    }

    private static void part() {
        Office o = promise(34, Office.ofKinds(0, 0).hooked(0, 1));
        o.same("at first", () -> o.x.part(0), 0);
        o.same("at first", () -> o.x.part(1), 1);
        o.x.slips(0, 9, 1, 2);
        o.same("above", () -> o.x.part(0), 4);
        o.same("below", () -> o.x.part(1), 5);
        o.bad("what", () -> o.x.part(2));
        o.bad("what", () -> o.x.part(-1));
    }

    private static void image() {
        Office o = promise(35, lived());
        o.same("image(0)", () -> o.x.image(0), 1);
        o.same("image(1)", () -> o.x.image(1), 1);
        o.bad("image(2)", () -> o.x.image(2));
        o.bad("image(-1)", () -> o.x.image(-1));
        o.x.office();
        o.same("an image of nobody", () -> o.x.image(0), 1);
        due("from(1)", o.x.from(1), 1);
        due("count(0)", o.x.count(0), 2);
        due("from(0)", o.x.from(0), 1);
        due("count(0)", o.x.count(0), 0);
    }

    private static void from() {
        Office o = promise(36, lived());
        o.no("none was kept", () -> o.x.from(0));
        o.bad("from(2)", () -> o.x.from(2));
        o.bad("from(-1)", () -> o.x.from(-1));
        o.x.image(0);
        o.no("none was kept there", () -> o.x.from(1));
        long kept = o.x.digest();
        o.x.day(9);
        o.x.unbend(1);
        o.x.told(1, 1, 1, 1);
        o.x.forget(1);
        o.x.mark(0, 9, 8, 7, 6);
        due("from(0)", o.x.from(0), 1);
        due("digest()", o.x.digest(), kept);
        o.x.clerk(0, 0, 1);
        o.x.magnet(0, 0, 1);
        due("from(0) again", o.x.from(0), 1);
        due("digest()", o.x.digest(), kept);
        o.text("office;clerk");
        o.x.slips(0, 9, 1, 5);
        o.bad("from(2)", () -> o.x.from(2));
        due("from(0)", o.x.from(0), 1);
        due("the text stays", o.x.count(9), 12);
        due("the fraction stays", o.x.part(0), 1);
        due("the fraction stays", o.x.part(1), 2);
        due("status stays", o.x.status(0), 4);
        due("what may be undone is kept", o.x.count(8), 1);
        due("undo()", o.x.undo(), 0);
        o.no("undo()", () -> o.x.undo());
    }

    private static void status() {
        Office o = promise(37, Office.ofKinds(0));
        o.x.day(0);
        o.x.lunch(0);
        o.x.undo();
        o.same("status(0)", () -> o.x.status(0), 2);
        o.same("status(1)", () -> o.x.status(1), 1);
        o.same("status(2)", () -> o.x.status(2), 0);
        o.refused(Office.BAD, "another", () -> o.x.status(3), -1);
        o.refused(Office.BAD, "another", () -> o.x.status(-1), -1);
        for (int far : FAR) {
            o.refused(Office.BAD, "another", () -> o.x.status(far), -1);
        }
        o.x.office();
        due("stays", o.x.status(1), 1);
    }

    private static void count() {
        Office o = promise(38, lived());
        o.x.told(0, 1, 1, 1);
        o.x.note(0, 1, 2, 3);
        o.x.note(0, 1, 2, 3);
        o.x.mark(0, 1, 2, 3, 4);
        o.x.day(1);
        int[] due = {2, 1, 3, 1, 6, 2, 3, 2, 2, 7};
        for (int what = 0; what < due.length; what++) {
            int which = what;
            o.same("count(" + what + ")", () -> o.x.count(which), due[what]);
        }
        o.bad("count(10)", () -> o.x.count(10));
        o.bad("count(-1)", () -> o.x.count(-1));
        for (int far : FAR) {
            o.bad("count", () -> o.x.count(far));
        }
    }

    private static long digestOf(long... values) {
        long h = 1553;
        for (long v : values) {
            h = 31 * h + v;
        }
        return h;
    }

    private static void digest() {
        Office o = promise(39, new Office());
        due("of nothing", o.x.digest(), digestOf(0, 0, 0, 0, 0, 0, 0, 0, 0, 0, 0, 1));
        Office some = lived();
        due("of some", some.x.digest(), digestOf(2, 1, 2, 1, 4, 1, 1, 1, 1, 7,
                0, 0, 1, 2, -1, 2, 3, 4, 2, 0, 1, 2, 3, 0, 1, 1, 1, 0, 1, 2, 3, 0, 1, 2, 3, 4, 7, 10));
    }
}
