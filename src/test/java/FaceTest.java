import java.lang.management.ManagementFactory;
import java.lang.reflect.Constructor;
import java.lang.reflect.Field;
import java.lang.reflect.Method;
import java.lang.reflect.Modifier;
import java.nio.file.Files;
import java.nio.file.Path;
import java.util.Arrays;
import java.util.Set;
import java.util.TreeSet;
import java.util.regex.Matcher;
import java.util.regex.Pattern;

/** The face of the document, and those rules of LANGUAGE.md that a test can look for. */
public final class FaceTest {
    private static final Set<String> FACE = Set.of(
        "int letter(int)", "int blank()", "int fault()", "int show()", "int trick(int, int)",
        "int as(int, int)", "int person(int, int)", "int cast(int, int)", "int drop(int, int)",
        "int clear()", "int fill()", "int night()", "int move(boolean)", "int letGo(int)",
        "int call(int, int)", "int most(int)", "int fewest(int)", "int spare()", "int wants(int)",
        "int route(int, int)", "int see(int, int, boolean)", "int forget()",
        "int tours(int, int, int)", "int image()", "int restore()", "int count(int)", "long digest()");
    private static final String[] RULED_OUT = {
        "throw", "throws", "try", "catch", "synchronized", "assert", "->", "::", "Exact", "double",
        "float", "equals", "hashCode", "toString", "Random", "System.currentTimeMillis",
        "System.nanoTime", "volatile", "transient", "native", "package", "protected"};
    private static final int MOST_METHOD_LINES = 60;
    private static final int MOST_PARAMETERS = 7;
    private static final int MOST_CLASSES = 12;
    private static final int MOST_FIELDS = 20;

    private final Expect expect = new Expect("FaceTest");

    public static void main(String[] args) throws Exception {
        FaceTest test = new FaceTest();
        test.constants();
        test.members();
        test.nested();
        test.words();
        test.methodLengths();
        test.room();
        test.expect.end();
    }

    private void constants() {
        expect.due("NONE", KeptVolunteers.NONE, -1);
        expect.due("UNKNOWN", KeptVolunteers.UNKNOWN, -101);
        expect.due("OUTSIDE", KeptVolunteers.OUTSIDE, -102);
        expect.due("STATE", KeptVolunteers.STATE, -103);
        expect.due("FULL", KeptVolunteers.FULL, -104);
    }

    private void members() {
        Set<String> found = new TreeSet<>();
        Set<String> names = new TreeSet<>();
        for (Method m : KeptVolunteers.class.getDeclaredMethods()) {
            if (Modifier.isPrivate(m.getModifiers()) || m.isSynthetic()) {
                continue;
            }
            expect.holds(m + " is public and not static",
                Modifier.isPublic(m.getModifiers()) && !Modifier.isStatic(m.getModifiers()));
            found.add(m.getReturnType() + " " + m.getName()
                + Arrays.toString(m.getParameterTypes()).replace('[', '(').replace(']', ')'));
            names.add(m.getName());
        }
        expect.holds("the methods are those of the face: " + found, found.equals(new TreeSet<>(FACE)));
        for (Class<?> c : allClasses()) {
            for (Method m : c.getDeclaredMethods()) {
                boolean ours = c == KeptVolunteers.class && Modifier.isPublic(m.getModifiers());
                expect.holds(m + " bears no public name", ours || !names.contains(m.getName()));
            }
        }
        int constants = 0;
        for (Field f : KeptVolunteers.class.getDeclaredFields()) {
            boolean shown = Modifier.isPublic(f.getModifiers());
            constants += shown ? 1 : 0;
            expect.holds(f + " is private or a constant", shown
                ? Modifier.isStatic(f.getModifiers()) && Modifier.isFinal(f.getModifiers())
                : Modifier.isPrivate(f.getModifiers()));
        }
        expect.due("public constants", constants, 5);
        Constructor<?>[] made = KeptVolunteers.class.getDeclaredConstructors();
        expect.due("constructors", made.length, 1);
        expect.holds("the constructor is public", Modifier.isPublic(made[0].getModifiers()));
        expect.holds("the class is public and final", Modifier.isPublic(KeptVolunteers.class.getModifiers())
            && Modifier.isFinal(KeptVolunteers.class.getModifiers()));
    }

    private static Class<?>[] allClasses() {
        Class<?>[] inside = KeptVolunteers.class.getDeclaredClasses();
        Class<?>[] all = Arrays.copyOf(inside, inside.length + 1);
        all[inside.length] = KeptVolunteers.class;
        return all;
    }

    private void nested() {
        expect.holds("few classes", allClasses().length <= MOST_CLASSES);
        for (Class<?> c : allClasses()) {
            expect.holds(c + " is static", c == KeptVolunteers.class || Modifier.isStatic(c.getModifiers()));
            int fields = 0;
            for (Field f : c.getDeclaredFields()) {
                boolean fixed = Modifier.isStatic(f.getModifiers());
                fields += fixed ? 0 : 1;
                expect.holds(f + " is final if static", !fixed || Modifier.isFinal(f.getModifiers()));
            }
            expect.holds(c + " has few fields", fields <= MOST_FIELDS);
            for (Method m : c.getDeclaredMethods()) {
                expect.holds(m + " has few parameters", m.getParameterCount() <= MOST_PARAMETERS);
            }
        }
    }

    private static String source() throws Exception {
        String text = Files.readString(Path.of("src/main/java/KeptVolunteers.java"));
        return text.replaceAll("(?s)/\\*.*?\\*/", "").replaceAll("//[^\n]*", "");
    }

    private void words() throws Exception {
        String text = source();
        for (String word : RULED_OUT) {
            String sought = Character.isLetter(word.charAt(0)) ? "\\b" + Pattern.quote(word) + "\\b" : Pattern.quote(word);
            expect.holds("no '" + word + "'", !Pattern.compile(sought).matcher(text).find());
        }
        Matcher imports = Pattern.compile("import ([^;]+);").matcher(text);
        while (imports.find()) {
            expect.holds(imports.group(1), imports.group(1).equals("java.util.Arrays"));
        }
    }

    private void methodLengths() throws Exception {
        int open = 0;
        int lines = 0;
        for (String line : source().split("\n")) {
            boolean starts = line.matches(" {4,8}\\S.*\\) \\{") && !line.contains("class ");
            if (starts) {
                lines = 0;
                open = line.length() - line.stripLeading().length();
            }
            lines++;
            if (line.equals(" ".repeat(open) + "}")) {
                expect.holds("a method ends within its lines", lines <= MOST_METHOD_LINES);
            }
        }
    }

    /** Whole runs of the dearest calls: what they make must stay far under the room of one run. */
    private void room() {
        com.sun.management.ThreadMXBean bean =
            (com.sun.management.ThreadMXBean) ManagementFactory.getThreadMXBean();
        dearRun();
        long before = bean.getThreadAllocatedBytes(Thread.currentThread().getId());
        dearRun();
        long bytes = bean.getThreadAllocatedBytes(Thread.currentThread().getId()) - before;
        expect.holds("a run makes little (" + bytes + " bytes)", bytes < 100_000);
    }

    private static void dearRun() {
        KeptVolunteers x = Expect.show("r624,r124,r331,p133,p341;8335545075");
        for (int i = 0; i < 16; i++) {
            x.most(0);
        }
        for (int i = 0; i < 6; i++) {
            x.fewest(1);
            x.spare();
        }
        for (int i = 0; i < 100; i++) {
            x.tours(40, i, 0);
            x.digest();
            x.image();
            x.restore();
        }
    }
}
