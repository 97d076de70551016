import java.io.IOException;
import java.lang.reflect.Constructor;
import java.lang.reflect.Field;
import java.lang.reflect.Method;
import java.lang.reflect.Modifier;
import java.nio.file.Files;
import java.nio.file.Path;
import java.util.ArrayList;
import java.util.List;
import java.util.Set;
import java.util.TreeSet;
import java.util.regex.Matcher;
import java.util.regex.Pattern;

/** The public face, and the rules of LANGUAGE.md that can be seen from outside or by words alone. */
public final class FaceTest {
    private static final Path SOURCE = Path.of("src/main/java/ClerkChains.java");
    private static final int MOST_CLASSES = 12, MOST_FIELDS = 20, MOST_PARAMETERS = 7;

    private static final String FACE = "int office() int clerk(int,int,int) int magnet(int,int,int) int type(int)"
            + " int clear() int read() int hook(int,int) int unbend(int) int day(int) int undo() int of(int,int)"
            + " int felt(int,int,int) int least(int,int) int quiet(int,int) int string(int,int) int strings(int)"
            + " int then(int,int) int lunch(int) int free(int) int caught(int) int told(int,int,int,int)"
            + " int found(int) int note(int,int,int,int) int mark(int,int,int,int,int) int forget(int)"
            + " int is(int) int look(int) int kinds(int) int ask(int) int lifts(int,int,int)"
            + " int slips(int,int,int,int) int decades(int,int) long part(int) int image(int) int from(int)"
            + " int status(int) int count(int) long digest()";

    private static int wrong = 0;

    public static void main(String[] args) throws IOException {
        List<Class<?>> inside = List.of(ClerkChains.class.getDeclaredClasses());
        Set<String> names = publicMethods();
        publicMembers();
        noPrivateNamesake(ClerkChains.class, names);
        holds("at most " + MOST_CLASSES + " classes", inside.size() < MOST_CLASSES);
        for (Class<?> one : inside) {
            holds(one + " is static", Modifier.isStatic(one.getModifiers()));
            holds(one + " is not public", !Modifier.isPublic(one.getModifiers()));
            noPrivateNamesake(one, names);
        }
        List<Class<?>> all = new ArrayList<>(inside);
        all.add(ClerkChains.class);
        for (Class<?> one : all) {
            fieldsOf(one);
            for (Method m : one.getDeclaredMethods()) {
                holds(m + " has few parameters", m.getParameterCount() <= MOST_PARAMETERS);
            }
        }
        words();
        System.out.println(wrong == 0 ? "the face and the rules hold" : wrong + " rules do not hold");
        if (wrong != 0) {
            System.exit(1);
        }
    }

    private static void holds(String rule, boolean so) {
        if (!so) {
            wrong++;
            System.out.println("not so: " + rule);
        }
    }

    private static Set<String> publicMethods() {
        Set<String> shown = new TreeSet<>();
        Set<String> names = new TreeSet<>();
        for (Method m : ClerkChains.class.getDeclaredMethods()) {
            if (!Modifier.isPrivate(m.getModifiers()) && !m.isSynthetic()) {
                holds(m + " is public, and no more", m.getModifiers() == Modifier.PUBLIC);
                StringBuilder s = new StringBuilder(m.getReturnType() + " " + m.getName() + "(");
                for (Class<?> p : m.getParameterTypes()) {
                    s.append(s.charAt(s.length() - 1) == '(' ? "" : ",").append(p);
                }
                shown.add(s.append(')').toString());
                names.add(m.getName());
            }
        }
        Set<String> due = new TreeSet<>(List.of(FACE.split("(?<=\\)) ")));
        holds("the methods are those of the document: " + shown, shown.equals(due));
        return names;
    }

    private static void publicMembers() {
        holds("the class is public and final",
                ClerkChains.class.getModifiers() == (Modifier.PUBLIC | Modifier.FINAL));
        Constructor<?>[] constructors = ClerkChains.class.getDeclaredConstructors();
        holds("one constructor, public", constructors.length == 1 && constructors[0].getParameterCount() == 0
                && constructors[0].getModifiers() == Modifier.PUBLIC);
        Set<String> shown = new TreeSet<>();
        for (Field f : ClerkChains.class.getDeclaredFields()) {
            if (!Modifier.isPrivate(f.getModifiers())) {
                shown.add(f.getType() + " " + f.getName());
                holds(f + " is a constant", Modifier.isPublic(f.getModifiers())
                        && Modifier.isStatic(f.getModifiers()) && Modifier.isFinal(f.getModifiers()));
            }
        }
        holds("the constants are those of the document",
                shown.equals(Set.of("int NONE", "int BAD", "int NO", "int FULL")));
    }

    private static void noPrivateNamesake(Class<?> one, Set<String> names) {
        for (Method m : one.getDeclaredMethods()) {
            holds(m + " is no namesake", !Modifier.isPrivate(m.getModifiers()) || !names.contains(m.getName()));
        }
    }

    private static void fieldsOf(Class<?> one) {
        int own = 0;
        for (Field f : one.getDeclaredFields()) {
            boolean constant = Modifier.isStatic(f.getModifiers());
            own += constant ? 0 : 1;
            holds(f + " is final", !constant || Modifier.isFinal(f.getModifiers()));
        }
        holds(one + " has few fields", own <= MOST_FIELDS);
    }

    /** No word that the rules rule out stands in the file, and new stands in no method but a constructor's. */
    private static void words() throws IOException {
        String source = Files.readString(SOURCE);
        holds("signs 1 to 127 alone", source.chars().allMatch(c -> c >= 1 && c <= 127));
        String code = source.replaceAll("(?s)/\\*.*?\\*/", " ").replaceAll("//[^\n]*", " ");
        Matcher m = Pattern.compile("\\b(throw|throws|try|catch|finally|synchronized|assert|package|import|native"
                + "|volatile|transient|strictfp|lambda|hashCode|equals|toString|NaN|Thread|System|Object)\\b"
                + "|->|::|\" *\\+|\\+ *\"").matcher(code);
        while (m.find()) {
            holds("no " + m.group() + " in the class", false);
        }
        for (String line : code.split("\n")) {
            boolean makes = Pattern.compile("\\bnew\\b").matcher(line).find();
            boolean field = line.matches(" +private final .*= new .*;") || line.contains("this.cells = new int[");
            holds("made once alone: " + line.strip(), !makes || field);
        }
    }
}
