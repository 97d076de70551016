import java.io.IOException;
import java.lang.reflect.Method;
import java.lang.reflect.Modifier;
import java.nio.file.Files;
import java.nio.file.Path;
import java.util.ArrayList;
import java.util.List;
import java.util.Map;
import java.util.Random;
import java.util.Set;
import java.util.TreeMap;
import java.util.TreeSet;
import java.util.regex.Matcher;
import java.util.regex.Pattern;

/** What README.md says of calls and answers: its examples, and its tables of what is refused and how. */
public final class ReadmeTest {
    private static final Path PAGE = Path.of("README.md");
    private static final Path DOCUMENT = Path.of("../shared/DOC.md");
    private static final String LIMIT = "An object is used for at most 512 calls after it has been made";

    private static final String[] REASONS = {"BAD", "NO", "FULL"};
    private static final int OBJECTS = 300;
    // An object of Lives has had some 200 calls; with each call here go five more.
    private static final int CALLS = 30;
    private static final int[] NUMBERS = {-2, -1, 0, 1, 2, 3, 4, 5, 6, 7, 9, 1000};

    private static final Pattern MADE = Pattern.compile("ClerkChains x = new ClerkChains\\(\\);");
    private static final Pattern TYPED =
            Pattern.compile("for \\(char c : \"([^\"]*)\"\\.toCharArray\\(\\)\\) x\\.type\\(c\\);");
    private static final Pattern CALLED = Pattern.compile("x\\.(\\w+)\\(([^)]*)\\); +// (-?\\d+): .+");

    private static final Map<String, Method> FACE = new TreeMap<>();
    private static int looked = 0;
    private static int wrong = 0;

    public static void main(String[] args) throws Exception {
        for (Method m : ClerkChains.class.getDeclaredMethods()) {
            if (Modifier.isPublic(m.getModifiers())) {
                FACE.put(m.getName(), m);
            }
        }
        String page = Files.readString(PAGE);
        examples(page);
        theLimit(page);
        refusals(table(page, "| calls | may be refused as |"), table(page, "| calls | answer below 0 |"),
                answersOf(table(page, "| reason | answer | counted by |")));
        System.out.println(looked + " sayings of " + PAGE + ", " + wrong + " not so");
        if (wrong != 0) {
            System.exit(1);
        }
    }

    private static void so(String what, boolean holds) {
        looked++;
        if (!holds) {
            wrong++;
            System.out.println("not so: " + what);
        }
    }

    // ---- the examples

    private static void examples(String page) throws Exception {
        Matcher block = Pattern.compile("(?s)```java\n(.*?)```").matcher(page);
        int blocks = 0;
        while (block.find()) {
            blocks++;
            example(block.group(1).split("\n"));
        }
        so("there are examples", blocks >= 3);
    }

    private static void example(String[] lines) throws Exception {
        ClerkChains x = null;
        for (String line : lines) {
            Matcher typed = TYPED.matcher(line);
            Matcher called = CALLED.matcher(line);
            if (MADE.matcher(line).matches()) {
                x = new ClerkChains();
            } else if (typed.matches()) {
                Lives.type(x, typed.group(1));
            } else if (called.matches() && FACE.containsKey(called.group(1))) {
                so(line, call(x, FACE.get(called.group(1)), numbers(called.group(2)))
                        == Long.parseLong(called.group(3)));
            } else {
                so("an example's line is a call and its answer: " + line, false);
            }
        }
    }

    private static Object[] numbers(String told) {
        List<Object> all = new ArrayList<>();
        for (String one : told.split(", *")) {
            if (!one.isEmpty()) {
                all.add(one.startsWith("'") ? one.charAt(1) : Integer.parseInt(one));
            }
        }
        return all.toArray();
    }

    private static long call(ClerkChains x, Method m, Object[] numbers) throws Exception {
        return ((Number) m.invoke(x, numbers)).longValue();
    }

    // ---- the limit

    private static void theLimit(String page) throws IOException {
        so("the page tells the limit", page.contains(LIMIT));
        so("the document tells the limit", !Files.exists(DOCUMENT) || Files.readString(DOCUMENT).contains(LIMIT));
    }

    // ---- the tables

    /** The rows of the table that has this head, each cut into its cells. */
    private static List<String[]> table(String page, String head) {
        List<String[]> rows = new ArrayList<>();
        int at = page.indexOf(head);
        so("there is a table " + head, at >= 0);
        String[] lines = page.substring(Math.max(at, 0)).split("\n");
        for (int k = 2; k < lines.length && lines[k].startsWith("| "); k++) {
            rows.add(lines[k].substring(2, lines[k].length() - 2).split(" \\| "));
        }
        so("it has rows", !rows.isEmpty());
        return rows;
    }

    /** By reason, and that status counts it where the table says so. */
    private static long[] answersOf(List<String[]> rows) {
        long[] answers = new long[REASONS.length];
        so("each reason has a row", rows.size() == REASONS.length);
        for (int k = 0; k < REASONS.length; k++) {
            so("the row of " + REASONS[k], rows.get(k)[0].startsWith("`" + REASONS[k] + "`"));
            so("where it is counted", rows.get(k)[2].equals("`status(" + k + ")`"));
            answers[k] = Long.parseLong(rows.get(k)[1]);
        }
        so("the constants", answers[0] == ClerkChains.BAD && answers[1] == ClerkChains.NO
                && answers[2] == ClerkChains.FULL);
        return answers;
    }

    private static void refusals(List<String[]> refused, List<String[]> below, long[] answers) throws Exception {
        Set<String> seen = new TreeSet<>();
        for (String[] row : refused) {
            for (String name : row[0].replace("`", "").split(", ")) {
                so(name + " is a call, told once", FACE.containsKey(name) && seen.add(name));
                if (FACE.containsKey(name)) {
                    asTold(FACE.get(name), row[1].replace("`", ""), answers, belowOf(below, name));
                }
            }
        }
        so("all calls are told", seen.equals(FACE.keySet()));
        for (String[] row : below) {
            so("calls: " + row[0], seen.containsAll(List.of(row[0].replace("`", "").split(", "))));
        }
    }

    /** What the page says of answers below 0 that are no refusals; empty: there are none. */
    private static String belowOf(List<String[]> below, String name) {
        for (String[] row : below) {
            if (List.of(row[0].replace("`", "").split(", ")).contains(name)) {
                return row[1];
            }
        }
        return "";
    }

    /** Makes the call many times, and holds what is refused, and how it answers, against the page. */
    private static void asTold(Method m, String reasons, long[] answers, String below) throws Exception {
        Set<String> told = new TreeSet<>(List.of(reasons.replaceAll(", answered by.*", "").split(", ")));
        told.remove("never");
        Set<String> met = new TreeSet<>();
        boolean metBelow = false;
        Random random = new Random(m.getName().hashCode());
        for (int object = 0; object < OBJECTS; object++) {
            ClerkChains x = object % 3 == 0 ? Lives.empty() : object % 3 == 1 ? Lives.some() : Lives.full();
            if (object % 2 == 0) {
                x.day(1 + object % 60);
            }
            long[] counted = counted(x);
            for (int k = 0; k < CALLS; k++) {
                Object[] numbers = drawn(random, m.getParameterCount());
                long digest = x.digest();
                long answer = call(x, m, numbers);
                long digestBehind = x.digest();
                long[] behind = counted(x);
                int reason = raised(counted, behind);
                counted = behind;
                String shown = m.getName() + List.of(numbers) + " answered " + answer;
                if (reason >= 0) {
                    met.add(REASONS[reason]);
                    so(shown, answer == answerTold(reasons, answers[reason]) && digestBehind == digest);
                } else if (answer < 0) {
                    metBelow = true;
                    so(shown, fits(below, answer));
                }
            }
        }
        so(m.getName() + " is told to be refused as " + told + ", and is as " + met, told.equals(met));
        so(m.getName() + " below 0, but not refused: " + below, metBelow == !below.isEmpty());
    }

    private static Object[] drawn(Random random, int many) {
        Object[] numbers = new Object[many];
        for (int k = 0; k < many; k++) {
            numbers[k] = NUMBERS[random.nextInt(NUMBERS.length)];
        }
        return numbers;
    }

    private static long[] counted(ClerkChains x) {
        return new long[] {x.status(0), x.status(1), x.status(2)};
    }

    /** The reason by which STATUS has grown; -1: it stayed; a growth by more is none of these. */
    private static int raised(long[] ahead, long[] behind) {
        int reason = -1;
        for (int k = 0; k < ahead.length; k++) {
            if (behind[k] != ahead[k]) {
                so("STATUS grows by one, once", reason < 0 && behind[k] == ahead[k] + 1);
                reason = k;
            }
        }
        return reason;
    }

    private static long answerTold(String reasons, long usual) {
        Matcher own = Pattern.compile("answered by (-?\\d+)").matcher(reasons);
        return own.find() ? Long.parseLong(own.group(1)) : usual;
    }

    private static boolean fits(String below, long answer) {
        Matcher number = Pattern.compile("^(-\\d+)( less)?").matcher(below);
        if (number.find()) {
            long told = Long.parseLong(number.group(1));
            return number.group(2) == null ? answer == told : answer <= told;
        }
        return below.startsWith("any");
    }
}
