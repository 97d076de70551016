import java.util.function.LongSupplier;

/** An object under test, with what is due of it, for the tests of the promises. */
final class Office {
    static final int BAD = 0, NO = 1, FULL = 2;

    private static int wrong = 0;
    private static int checks = 0;
    private static String promise = "";

    final ClerkChains x = new ClerkChains();

    static void promise(String name) {
        promise = name;
    }

    /** Ends the program with exit code 1 if an answer was not the one that is due. */
    static void end() {
        System.out.println(checks + " answers, " + wrong + " not as due");
        if (wrong != 0 || checks == 0) {
            System.exit(1);
        }
    }

    static void due(String call, long got, long want) {
        checks++;
        if (got != want) {
            wrong++;
            System.out.println("promise " + promise + ": " + call + " answered " + got + ", due is " + want);
        }
    }

    static Office with(int... clerks) {
        Office o = new Office();
        for (int k = 0; k + 2 < clerks.length; k += 3) {
            due("clerk", o.x.clerk(clerks[k], clerks[k + 1], clerks[k + 2]), k / 3);
        }
        return o;
    }

    /** CLERKS of these kinds at desk 5, of weight 1. */
    static Office ofKinds(int... kinds) {
        Office o = new Office();
        for (int k = 0; k < kinds.length; k++) {
            due("clerk", o.x.clerk(kinds[k], 5, 1), k);
        }
        return o;
    }

    /** Of each two numbers the first is hooked on the second. */
    Office hooked(int... pairs) {
        for (int k = 0; k + 1 < pairs.length; k += 2) {
            due("hook", x.hook(pairs[k], pairs[k + 1]) > 1 ? 1 : 0, 1);
        }
        return this;
    }

    Office text(String text) {
        x.clear();
        for (int k = 0; k < text.length(); k++) {
            due("type", x.type(text.charAt(k)), k + 1);
        }
        return this;
    }

    /** An answer that changes nothing, STATUS neither. */
    void same(String call, LongSupplier answer, long want) {
        unchanged(call, answer, want, -1);
    }

    /** A call refused for a reason: STATUS counts it there, and nothing else is changed. */
    void refused(int reason, String call, LongSupplier answer, long want) {
        unchanged(call, answer, want, reason);
    }

    void bad(String call, LongSupplier answer) {
        unchanged(call, answer, ClerkChains.BAD, BAD);
    }

    void no(String call, LongSupplier answer) {
        unchanged(call, answer, ClerkChains.NO, NO);
    }

    void full(String call, LongSupplier answer) {
        unchanged(call, answer, ClerkChains.FULL, FULL);
    }

    private void unchanged(String call, LongSupplier answer, long want, int reason) {
        long digest = x.digest();
        int[] counted = {x.status(BAD), x.status(NO), x.status(FULL)};
        due(call, answer.getAsLong(), want);
        due("digest() behind " + call, x.digest(), digest);
        for (int k = 0; k < counted.length; k++) {
            due("status(" + k + ") behind " + call, x.status(k), counted[k] + (k == reason ? 1 : 0));
        }
    }
}
