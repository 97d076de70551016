/** The edges of THE TEXT and of THE OFFICE that is told by it: a test for each sentence. */
public final class EdgesOfTextTest {
    private static final int LEAST_INT = Integer.MIN_VALUE, GREATEST_INT = Integer.MAX_VALUE;
    private static final String TWO = "office;clerk0 0 1;clerk0 0 1;";

    public static void main(String[] args) {
        theLength();
        theItems();
        theDays();
        theTokens();
        faultOfWords();
        faultOfNumbers();
        faultOfHooks();
        faultOfBytes();
        faultOfTheEnd();
        whatIsReplaced();
        Office.end();
    }

    private static void due(String call, long got, long want) {
        Office.due(call, got, want);
    }

    private static ClerkChains told(String text) {
        ClerkChains x = Lives.some();
        x.clear();
        Lives.type(x, text);
        return x;
    }

    /** It is read: so many ITEMS. Answers the object, for what it holds then. */
    private static ClerkChains items(String text, int items) {
        ClerkChains x = told(text);
        due("read() of " + text, x.read(), items);
        return x;
    }

    /** It has its FAULT at this place; all stays, STATUS too. */
    private static void fault(String text, int place) {
        Lives.unchanged(() -> told(text), "read() of " + text, x -> x.read(), -10 - place);
    }

    /** The FAULT is where the mark ^ stands. */
    private static void faultAt(String marked) {
        int place = marked.indexOf('^');
        fault(marked.replace("^", ""), place);
    }

    // ---- 150 bytes

    private static void theLength() {
        Office.sentence("A byte (0 .. 127) comes behind THE TEXT");
        Office b = new Office();
        b.bad("-1", () -> b.x.type(-1));
        b.bad("128", () -> b.x.type(128));
        b.bad("far below", () -> b.x.type(LEAST_INT));
        b.bad("far above", () -> b.x.type(GREATEST_INT));
        b.bad("a byte and 256", () -> b.x.type(256 + 'o'));
        due("0", b.x.type(0), 1);
        due("127", b.x.type(127), 2);

        Office.sentence("THE OFFICE is told by a TEXT (150 bytes at most)");
        due("a text of 150", Lives.TEXT.length(), 150);
        Office o = new Office();
        due("an empty one", o.x.count(9), 0);
        due("clear() of an empty one", o.x.clear(), 0);
        o.text(Lives.TEXT.substring(0, 149));
        due("149 bytes", o.x.count(9), 149);
        due("the last ; is not there", o.x.read(), -10 - 149);
        due("a 150th", o.x.type(';'), 150);
        o.full("a 151st", () -> o.x.type(';'));
        o.full("a 152nd", () -> o.x.type('x'));
        o.bad("a 151st that is no byte", () -> o.x.type(128));
        due("150 bytes", o.x.count(9), 150);
        due("all of them are read, and no more", o.x.read(), 15);
        due("clear()", o.x.clear(), 150);
        due("count(9)", o.x.count(9), 0);
        due("read() of none", o.x.read(), -10);
        due("type", o.x.type(' '), 1);
        due("what was cleared is not read", o.x.read(), -11);
    }

    // ---- ITEMS

    private static void theItems() {
        Office.sentence("ITEMS, each ended by ;");
        items("office;", 1);
        items("office;clerk 0 0 1;", 2);
        items(Lives.TEXT, 15);
        faultAt("office ^clerk 0 0 1;");
        faultAt("office;clerk 0 0 1 ^clerk 0 0 1;");
        faultAt("office;magnet 0 0 1 ^days 1;");
        faultAt(TWO + "hook 0 1 ^days 1;");
        faultAt("office;days 1 ^days 1;");
        faultAt("office;^;");
        faultAt("office;days 1;^;");

        Office.sentence("office (once, first of all)");
        items("office;days 1;", 2);
        faultAt("office;^office;");
        faultAt("office;days 1;^office;");
        faultAt("^days 1;office;");
        faultAt("^clerk 0 0 1;");
        faultAt("^;office;");
        faultAt("^1 office;");
        faultAt("office ^1;");

        Office.sentence("clerk KIND DESK WEIGHT");
        ClerkChains c = items("office;clerk 0 11 9;clerk 5 0 1;", 3);
        int[][] clerks = {{0, 11, 9, 0, -1}, {5, 0, 1, 0, -1}};
        for (int i = 0; i < 2; i++) {
            for (int what = 0; what < 5; what++) {
                due("of(" + i + ", " + what + ")", c.of(i, what), clerks[i][what]);
            }
        }
        due("count(0)", c.count(0), 2);

        Office.sentence("magnet KIND DESK POWER");
        ClerkChains m = items("office;magnet 0 0 1;magnet 5 11 9;clerk 0 10 9;", 4);
        due("count(1)", m.count(1), 2);
        due("drawn by the second", m.string(0, 3), 37);

        Office.sentence("hook i j (i ON j)");
        ClerkChains h = items(TWO + "hook 0 1;", 4);
        due("of(0, 4)", h.of(0, 4), 1);
        due("of(1, 4)", h.of(1, 4), -1);
    }

    private static void theDays() {
        Office.sentence("days n (1 .. 99: so many go by, where it stands)");
        faultAt("office;days ^0;");
        faultAt("office;days ^00;");
        faultAt("office;days ^100;");
        due("1", items("office;days 1;", 2).count(2), 1);
        due("01", items("office;days 01;", 2).count(2), 1);
        due("99", items("office;days 99;", 2).count(2), 99);
        ClerkChains x = items("office;days 2;clerk 0 5 1;days 3;magnet 0 11 9;days 1;clerk 0 5 1;", 7);
        due("count(2)", x.count(2), 6);
        due("desk of the first", x.of(0, 1), 6);
        due("its rust", x.of(0, 3), 0);
        due("desk of the second", x.of(1, 1), 5);
        due("its rust", x.of(1, 3), 0);
        ClerkChains rust = items("office;clerk 0 5 1;days 99;clerk 0 5 1;days 1;", 5);
        due("rust at most", rust.of(0, 3), 99);
        due("rust", rust.of(1, 3), 1);

        Office.sentence("DAYS have numbers, 0 at first (999 at most).");
        String late = "office;" + "days99;".repeat(10);
        due("998", items(late + "days8;", 12).count(2), 998);
        due("999", items(late + "days9;", 12).count(2), 999);
        due("beyond it", items(late + "days10;", 12).count(2), 999);
        due("far beyond it", items(late + "days99;days99;", 13).count(2), 999);
        ClerkChains last = items(late + "days8;clerk0 5 1;days9;magnet0 11 9;days1;", 16);
        due("count(2)", last.count(2), 999);
        due("one DAY alone has gone by", last.of(0, 3), 1);
        due("none any more", last.of(0, 1), 5);
    }

    // ---- TOKENS

    private static void theTokens() {
        Office.sentence("words of letters a .. z");
        faultAt("^`ffice;");
        faultAt("^{ffice;");
        faultAt("^Office;");
        faultAt("office;^Zclerk 0 0 1;");
        fault("offic`", 0);
        fault("office`", 6);
        fault("office{", 6);
        fault("officea", 0);
        fault("officez", 0);

        Office.sentence("(a KIND is told as its number)");
        faultAt("office;clerk ^plain 0 1;");
        faultAt("office;magnet ^great 0 1;");

        Office.sentence("figures (1 or 2 are one number)");
        due("1", items("office;clerk 0 1 1;", 2).of(0, 1), 1);
        due("2", items("office;clerk 0 10 1;", 2).of(0, 1), 10);
        due("2, the first 0", items("office;clerk 0 01 1;", 2).of(0, 1), 1);
        due("00", items("office;clerk 00 00 01;", 2).of(0, 1), 0);
        due("09", items("office;clerk 05 09 09;", 2).of(0, 2), 9);
        faultAt("office;clerk 0 ^001 1;");
        faultAt("office;clerk 0 ^/ 1;");
        faultAt("office;clerk 0 ^: 1;");
        faultAt("office;clerk 0 1^/ 1;");
        faultAt("office;clerk 0 1^: 1;");
        // Two figures without a blank are one number: WEIGHT is told by the next one.
        faultAt("office;clerk 00 1^;");

        Office.sentence("blanks (32), any number, ahead of, between and behind TOKENS (needed only between two words, two numbers)");
        items("office;clerk0 0 1;clerk0 0 1;hook1 0;days1;magnet0 0 1;", 6);
        items("   office   ;   clerk   0   0   1   ;   ", 2);
        items(" ".repeat(143) + "office;", 1);
        items("office;" + " ".repeat(143), 1);
        items("office" + " ".repeat(143) + ";", 1);
        items("office;clerk0 0" + " ".repeat(133) + "1;", 2);
        faultAt("^officeclerk 0 0 1;");
        faultAt("office;^clerk" + "clerk;");
        for (int blank : new int[] {0, 9, 10, 13, 31, 33, 127}) {
            fault((char) blank + "office;", 0);
            fault("office" + (char) blank + ";", 6);
            fault("office;clerk 0" + (char) blank + "0 1;", 14);
            fault("office;" + (char) blank, 7);
        }
    }

    // ---- FAULT

    private static void faultOfWords() {
        Office.sentence("a word that is none");
        for (String word : new String[] {"o", "offic", "offices", "fice", "ooffice", "officf"}) {
            fault(word + ";", 0);
            fault("  " + word + ";", 2);
        }
        for (String word : new String[] {"c", "cler", "clerks", "clerl", "lerk", "magne", "magnets", "magnes",
            "hoo", "hooks", "hool", "day", "dayss", "dayt", "ays", "ofice", "x"}) {
            fault("office;" + word + " 0 0 1;", 7);
            fault("office; " + word, 8);
        }

        Office.sentence("office again");
        faultAt("office;^office");
        faultAt("office;days 1; ^office;");
        faultAt("office ^office;");
        faultAt("office;clerk ^office 0 1;");

        Office.sentence("anything ahead of it");
        for (String ahead : new String[] {"clerk", "magnet", "hook", "days", "x", "0", "12", "123", ";", "-", "A"}) {
            fault(ahead + " office;", 0);
            fault(" " + ahead + ";office;", 1);
        }

        Office.sentence("an 8th clerk, a 4th magnet at its word");
        String seven = "office;" + "clerk0 0 1;".repeat(7);
        due("seven", items(seven, 8).count(0), 7);
        faultAt(seven + "^clerk0 0 1;");
        faultAt(seven + " ^clerk");
        faultAt(seven + "^clerk 9;");
        String three = "office;" + "magnet0 0 1;".repeat(3);
        due("three", items(three, 4).count(1), 3);
        faultAt(three + "^magnet0 0 1;");
        faultAt(three + " ^magnet");
        faultAt(three + "^magnet x");
        due("both full", items(Lives.TEXT, 15).count(0), 7);
    }

    private static void faultOfNumbers() {
        Office.sentence("a run of three figures or more (at its first one)");
        for (String run : new String[] {"000", "001", "010", "100", "111", "999", "0001", "12345", "00000000000"}) {
            fault("office;clerk" + run + " 0 1;", 12);
            fault("office;clerk 0 " + run + " 1;", 15);
            fault("office;clerk 0 0 " + run + ";", 17);
            fault("office;magnet 0 0 " + run + ";", 18);
            fault(TWO + "hook " + run + " 1;", 34);
            fault(TWO + "hook 0 " + run + ";", 36);
            fault("office;days" + run + ";", 11);
            fault("office;days 1 " + run + ";", 14);
            fault("office;" + run + ";", 7);
            fault("office;clerk 0 0 " + run, 17);
        }

        Office.sentence("a number not as told");
        due("the greatest KIND", items("office;clerk 5 0 1;", 2).of(0, 0), 5);
        faultAt("office;clerk ^6 0 1;");
        faultAt("office;clerk ^99 0 1;");
        due("the greatest DESK", items("office;clerk 0 11 1;", 2).of(0, 1), 11);
        faultAt("office;clerk 0 ^12 1;");
        faultAt("office;clerk 0 ^99 1;");
        due("the greatest WEIGHT", items("office;clerk 0 0 9;", 2).of(0, 2), 9);
        faultAt("office;clerk 0 0 ^10;");
        faultAt("office;clerk 0 0 ^0;");
        faultAt("office;clerk 0 0 ^00;");
        faultAt("office;clerk 0 0 ^99;");
        due("the greatest of a magnet", items("office;magnet 5 11 9;", 2).count(1), 1);
        due("the least of a magnet", items("office;magnet 0 0 1;", 2).count(1), 1);
        faultAt("office;magnet ^6 0 1;");
        faultAt("office;magnet 0 ^12 1;");
        faultAt("office;magnet 0 0 ^10;");
        faultAt("office;magnet 0 0 ^0;");
        faultAt("office;days ^0;");
        // The first of several that are wrong.
        faultAt("office;clerk ^6 12 10;");
        faultAt("office;clerk 5 ^12 10 x");
        // What is no number at all, and one too many.
        faultAt("office;clerk^;");
        faultAt("office;clerk 0^;");
        faultAt("office;clerk 0 0^;");
        faultAt("office;clerk 0 0 1 ^1;");
        faultAt("office;magnet 0 0 ^days");
        faultAt("office;days^;");
        faultAt("office;days 1 ^1;");
        faultAt("office;days ^-1;");
    }

    private static void faultOfHooks() {
        Office.sentence("also a CLERK that is not there yet");
        faultAt("office;hook ^0 0;");
        faultAt("office;hook ^0 1;clerk0 0 1;clerk0 0 1;");
        faultAt("office;clerk0 0 1;hook 0 ^1;clerk0 0 1;");
        faultAt(TWO + "hook ^2 0;");
        faultAt(TWO + "hook 0 ^2;");
        faultAt(TWO + "hook ^99 0;");
        faultAt(TWO + "hook 0 ^99;");
        String seven = "office;" + "clerk0 0 1;".repeat(7);
        due("the last of seven", items(seven + "hook 6 0;hook 5 6;", 10).of(5, 4), 6);
        faultAt(seven + "hook ^7 0;");
        faultAt(seven + "hook 0 ^7;");

        Office.sentence("one that is ON somebody already (the first number of hook)");
        faultAt(TWO + "hook 0 1;hook ^0 1;");
        faultAt(TWO + "hook 0 1;hook ^0 9;");
        faultAt(TWO + "clerk0 0 1;hook 0 1;hook ^0 2;");

        Office.sentence("one it can not be ON (the second)");
        faultAt(TWO + "hook 0 ^0;");
        faultAt(TWO + "hook 1 ^1;");
        faultAt(TWO + "hook 0 1;hook 1 ^0;");
        faultAt(seven + "hook1 0;hook2 1;hook3 2;hook4 3;hook5 4;hook0 ^5;");
        due("a chain of seven", items(seven + "hook1 0;hook2 1;hook3 2;hook4 3;hook5 4;hook6 5;", 14).strings(0), 1);
        due("two ON one", items(seven + "hook1 0;hook2 0;", 10).count(3), 2);
        faultAt(seven + "hook1 0;hook2 0;hook3 ^0;");
        faultAt(seven + "hook1 0;hook2 0;hook 0 ^2;");
    }

    private static void faultOfBytes() {
        Office.sentence("a byte that begins none, too");
        for (int b = 0; b < 128; b++) {
            String one = String.valueOf((char) b);
            boolean letter = b >= 'a' && b <= 'z';
            boolean figure = b >= '0' && b <= '9';
            boolean blank = b == ' ';
            // Alone it can stand nowhere; a blank alone leaves the TEXT too short.
            fault(one, blank ? 1 : 0);
            due("behind an ITEM: byte " + b, told("office;" + one).read(), blank ? 1 : -17);
            if (!letter) {
                due("behind a word: byte " + b, told("office" + one + ";").read(), blank ? 1 : b == ';' ? -17 : -16);
            }
            if (!letter && !figure) {
                due("behind a number: byte " + b, told("office;clerk 1" + one + "1 1;").read(), blank ? 2 : -24);
            }
        }
    }

    private static void faultOfTheEnd() {
        Office.sentence("the TEXT's length, if it ends too early (an empty one, too)");
        fault("", 0);
        for (int blanks : new int[] {1, 2, 149, 150}) {
            fault(" ".repeat(blanks), blanks);
        }
        for (String early : new String[] {"office", "office ", " office  ", "office;clerk", "office;clerk ",
            "office;clerk 0", "office;clerk 0 ", "office;clerk 0 0", "office;clerk 0 0  ", "office;clerk 0 0 1",
            "office;magnet", "office;magnet 5 11", "office;magnet 5 11 9", "office;days", "office;days 99 ",
            TWO + "hook", TWO + "hook 0", TWO + "hook 0 1", "office;days" + " ".repeat(139)}) {
            fault(early, early.length());
        }
        everyBeginning();
    }

    /** Of a TEXT that is well told: each ; ends an ITEM, and a word that is cut off is none. */
    private static void everyBeginning() {
        String text = Lives.TEXT;
        int items = 0;
        for (int length = 0; length <= text.length(); length++) {
            String begun = text.substring(0, length);
            items += begun.endsWith(";") ? 1 : 0;
            String word = begun.substring(lastButLetters(begun));
            boolean cut = !word.isEmpty() && "office clerk magnet hook days".indexOf(word) >= 0
                    && !" office clerk magnet hook days ".contains(" " + word + " ");
            int want = begun.endsWith(";") ? items : -10 - (cut ? length - word.length() : length);
            due("read() of the first " + length, told(begun).read(), want);
        }
        due("items of all", items, 15);
    }

    private static int lastButLetters(String text) {
        int at = text.length();
        while (at > 0 && text.charAt(at - 1) >= 'a' && text.charAt(at - 1) <= 'z') {
            at--;
        }
        return at;
    }

    // ---- an OFFICE that is read

    private static void whatIsReplaced() {
        Office.sentence("An OFFICE that is read takes the place of all but IMAGES, THE TEXT, THE FRACTION, STATUS (TOLD ones, NOTES, MARKS none; nothing to undo).");
        Office.due("read() of the fullest", readOver("office;"), 1);
        ClerkChains x = Lives.full();
        x.lunch(0);
        x.from(2);
        x.undo();
        x.clerk(0, 0, 1);
        x.unbend(0);
        int[] refused = {x.status(0), x.status(1), x.status(2)};
        due("read()", x.read(), 15);
        int[] counts = {7, 3, 1, 3, 7, 0, 0, 0, 0, 150};
        for (int what = 0; what < counts.length; what++) {
            due("count(" + what + ")", x.count(what), counts[what]);
        }
        for (int reason = 0; reason < 3; reason++) {
            due("status(" + reason + ")", x.status(reason), refused[reason]);
        }
        due("above", x.part(0), 7);
        due("below", x.part(1), 10);
        due("undo()", x.undo(), -3);
        due("from(1)", x.from(1), 1);
        due("told of the image", x.count(5), 1);
        due("read() again", x.read(), 15);
        due("from(0)", x.from(0), 1);
        due("nobody is hooked in the other image", x.count(3), 0);

        Office.sentence("-10 less the FAULT: all stays.");
        Lives.unchanged(Lives::empty, "read() of none", o -> o.read(), -10);
        Lives.unchanged(() -> Lives.fullWith("office;clerk 0 0 1;hook"), "read() that ends too early",
                o -> o.read(), -33);
        Lives.unchanged(() -> Lives.fullWith(Lives.TEXT.substring(0, 149) + "x"), "read() of a wrong last byte",
                o -> o.read(), -10 - 149);
    }

    private static int readOver(String text) {
        ClerkChains x = Lives.fullWith(text);
        int items = x.read();
        for (int what = 0; what < 9; what++) {
            due("count(" + what + ") behind " + text, x.count(what), 0);
        }
        return items;
    }
}
