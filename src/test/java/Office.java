import java.io.IOException;
import java.nio.file.Files;
import java.nio.file.Path;
import java.util.function.LongSupplier;

/** An object under test, with what is due of it, for the tests of the promises and of the edges. */
final class Office {
    static final int BAD = 0, NO = 1, FULL = 2;

    private static final Path DOCUMENT = Path.of("../shared/DOC.md");
    // One fault of the class may show in many thousand answers.
    private static final int MOST_SHOWN = 300;

    private static int wrong = 0;
    private static int checks = 0;
    private static int checksAhead = 0;
    private static String label = "";
    private static String document = null;

    final ClerkChains x = new ClerkChains();

    static void promise(String number) {
        label = "promise " + number;
    }

    /** Begins the test of a sentence, told in the document's own words. */
    static void sentence(String words) {
        closeSentence();
        label = "\"" + words + "\"";
        if (!stands(words)) {
            tell(label + " does not stand in " + DOCUMENT);
        }
    }

    /** A sentence without an answer of its own is not tested. */
    private static void closeSentence() {
        if (label.startsWith("\"") && checks == checksAhead) {
            tell(label + " has no test");
        }
        checksAhead = checks;
    }

    /** Line breaks and code marks aside; where there is no document, every quotation stands. */
    private static boolean stands(String words) {
        if (document == null) {
            try {
                document = Files.exists(DOCUMENT) ? Files.readString(DOCUMENT).replaceAll("[`\\s]+", " ") : "";
            } catch (IOException e) {
                document = "";
            }
        }
        return document.isEmpty() || document.contains(words.replaceAll("[`\\s]+", " "));
    }

    /** Ends the program with exit code 1 if an answer was not the one that is due. */
    static void end() {
        closeSentence();
        System.out.println(checks + " answers, " + wrong + " not as due");
        if (wrong != 0 || checks == 0) {
            System.exit(1);
        }
    }

    static void due(String call, long got, long want) {
        checks++;
        if (got != want) {
            tell(label + ": " + call + " answered " + got + ", due is " + want);
        }
    }

    private static void tell(String fault) {
        wrong++;
        if (wrong <= MOST_SHOWN) {
            System.out.println(fault);
        } else if (wrong == MOST_SHOWN + 1) {
            System.out.println("..");
        }
    }

    static Office with(int... clerks) {
        Office o = new Office();
        for (int k = 0; k + 2 < clerks.length; k += 3) {
            due("clerk", o.x.clerk(clerks[k], clerks[k + 1], clerks[k + 2]), k / 3);
        }
        return o;
    }

    /** CLERKS of these kinds at desk 5, of weight 1. */
    static Office ofKinds(int... kinds) {
        Office o = new Office();
        for (int k = 0; k < kinds.length; k++) {
            due("clerk", o.x.clerk(kinds[k], 5, 1), k);
        }
        return o;
    }

    /** So many PLAIN CLERKS, all alone. */
    static Office ofPlain(int many) {
        return ofKinds(new int[many]);
    }

    /** So many PLAIN CLERKS, each but the first ON the one ahead of it. */
    static Office chain(int many) {
        return ofPlain(many).chained(many);
    }

    Office chained(int many) {
        for (int c = 1; c < many; c++) {
            due("hook", x.hook(c, c - 1), c + 1);
        }
        return this;
    }

    /** Of each two numbers the first is hooked on the second. */
    Office hooked(int... pairs) {
        for (int k = 0; k + 1 < pairs.length; k += 2) {
            due("hook", x.hook(pairs[k], pairs[k + 1]) > 1 ? 1 : 0, 1);
        }
        return this;
    }

    Office magnet(int kind, int desk, int power) {
        int many = x.count(1);
        due("magnet", x.magnet(kind, desk, power), many);
        return this;
    }

    /** Lets DAYS go by until it is this one. */
    Office untilDay(int day) {
        for (int k = 0; k < 20 && x.count(2) < day; k++) {
            x.day(Math.min(60, day - x.count(2)));
        }
        due("count(2)", x.count(2), day);
        return this;
    }

    Office text(String text) {
        x.clear();
        for (int k = 0; k < text.length(); k++) {
            due("type", x.type(text.charAt(k)), k + 1);
        }
        return this;
    }

    /** An answer that changes nothing, STATUS neither. */
    void same(String call, LongSupplier answer, long want) {
        unchanged(call, answer, want, -1);
    }

    /** A call refused for a reason: STATUS counts it there, and nothing else is changed. */
    void refused(int reason, String call, LongSupplier answer, long want) {
        unchanged(call, answer, want, reason);
    }

    void bad(String call, LongSupplier answer) {
        unchanged(call, answer, ClerkChains.BAD, BAD);
    }

    void no(String call, LongSupplier answer) {
        unchanged(call, answer, ClerkChains.NO, NO);
    }

    void full(String call, LongSupplier answer) {
        unchanged(call, answer, ClerkChains.FULL, FULL);
    }

    private void unchanged(String call, LongSupplier answer, long want, int reason) {
        long digest = x.digest();
        int[] counted = {x.status(BAD), x.status(NO), x.status(FULL)};
        due(call, answer.getAsLong(), want);
        due("digest() behind " + call, x.digest(), digest);
        for (int k = 0; k < counted.length; k++) {
            due("status(" + k + ") behind " + call, x.status(k), counted[k] + (k == reason ? 1 : 0));
        }
    }
}
