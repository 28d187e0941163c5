import java.io.IOException;
import java.lang.management.ManagementFactory;
import java.lang.reflect.Field;
import java.lang.reflect.Method;
import java.lang.reflect.Modifier;
import java.nio.file.Files;
import java.nio.file.Path;
import java.util.List;
import java.util.regex.Matcher;
import java.util.regex.Pattern;

/**
 * The rules of LANGUAGE.md that can be read off the program's text, its classes, or what a run makes. It is run from the
 * project's folder.
 */
public final class LanguageTest {
    private static final Path PROGRAM = Path.of("src/main/java/PartitionedProcedureStore.java");
    private static final String[] FORBIDDEN = {
        "\\bthrow\\b", "\\bthrows\\b", "\\btry\\b", "\\bcatch\\b", "\\bsynchronized\\b", "\\bassert\\b", "->", "::",
        "\\bpackage\\b", "\\bSystem\\.(?!arraycopy)", "\\bprotected\\b", "static\\s*\\{", "\\w+Exact\\b", "\\bRandom\\b",
        "\\bThread\\b", "\\bObject\\b", "\\bhashCode\\b", "\\btoString\\b", "while \\(true\\)", "for \\(;;\\)"};
    private static final Pattern LIBRARY = Pattern.compile("\\b([A-Z]\\w*\\.[a-z]\\w*)\\(");
    private static final String ALLOWED =
        "System\\.arraycopy|Arrays\\.(copyOf|copyOfRange|fill)|Math\\.(max|min|abs|floorDiv|floorMod)";
    /** A field or element takes a byte at least, so that fewer bytes than this keep to the room's fields and objects. */
    private static final long ROOM = 7300000;
    private static final Pattern METHOD = Pattern.compile("^( +)(?!return|else|new)[\\w<>\\[\\] ]*?\\w+\\(([^()]*)\\) \\{$");
    private static final Due due = new Due("LanguageTest");

    public static void main(String[] args) throws IOException {
        List<String> lines = Files.readAllLines(PROGRAM);
        wordsAreAllowed(lines);
        methodsStayShort(lines);
        classesAreAllowed();
        aRunStaysInItsRoom();
        due.end();
    }

    private static void wordsAreAllowed(List<String> lines) {
        for (String line : lines) {
            String code = line.replaceAll("//.*|^\\s*/?\\*.*", "");
            for (String word : FORBIDDEN) {
                due.holds("no " + word + " in: " + line, !Pattern.compile(word).matcher(code).find());
            }
            Matcher library = LIBRARY.matcher(code);
            while (library.find()) {
                due.holds("of the library: " + library.group(1), library.group(1).matches(ALLOWED));
            }
            if (code.startsWith("import")) {
                due.holds("allowed: " + code, code.matches("import java\\.util\\.(ArrayList|Arrays|List|Iterator);"));
            }
        }
    }

    private static void classesAreAllowed() {
        Class<?>[] inside = PartitionedProcedureStore.class.getDeclaredClasses();
        due.holds("at most twelve classes", inside.length < 12);
        membersAreAllowed(PartitionedProcedureStore.class);
        for (Class<?> type : inside) {
            due.holds("static and not public: " + type, Modifier.isStatic(type.getModifiers())
                && (type.getModifiers() & (Modifier.PUBLIC | Modifier.PROTECTED)) == 0);
            due.holds("no class inside: " + type, type.getDeclaredClasses().length == 0);
            membersAreAllowed(type);
        }
    }

    private static void membersAreAllowed(Class<?> type) {
        int fields = 0;
        for (Field field : type.getDeclaredFields()) {
            boolean constant = Modifier.isStatic(field.getModifiers());
            fields += constant ? 0 : 1;
            due.holds("a constant, if static: " + field, !constant || Modifier.isFinal(field.getModifiers())
                && (field.getType() == int.class || field.getType() == long.class));
        }
        due.holds("at most twenty fields: " + type, fields <= 20);
        for (Method method : type.getDeclaredMethods()) {
            due.holds("one of the face's names only if public: " + method, !Modifier.isPrivate(method.getModifiers())
                || !FaceTest.names().contains(method.getName()));
        }
    }

    private static void aRunStaysInItsRoom() {
        com.sun.management.ThreadMXBean bean = (com.sun.management.ThreadMXBean) ManagementFactory.getThreadMXBean();
        long self = Thread.currentThread().getId();
        // The first run also loads classes, which is no part of what a run makes.
        dearRun();
        long before = bean.getThreadAllocatedBytes(self);
        long answers = dearRun();
        long made = bean.getThreadAllocatedBytes(self) - before;
        due.holds("a run that answers " + answers + " makes " + made + " bytes", made > 0 && made < ROOM / 10);
    }

    /** 511 calls, most of which make an object: statements of drafts that are dropped, then commands and markers. */
    private static long dearRun() {
        PartitionedProcedureStore store = new PartitionedProcedureStore(1);
        long sum = 0;
        for (int i = 0; i < 30; i++) {
            sum += store.open(i % 6, true);
            for (int k = 0; k < 8; k++) {
                sum += store.add(10, 0, 0, 0);
            }
        }
        sum += store.deploy();
        for (int i = 0; i < 24; i++) {
            for (int client = 0; client < 4; client++) {
                sum += store.invoke(client, 5, i, i, i);
            }
            sum += store.snapshot();
            for (int k = 0; k < 5; k++) {
                sum += store.step(0);
            }
        }
        return sum;
    }

    private static void methodsStayShort(List<String> lines) {
        int methods = 0;
        for (int i = 0; i < lines.size(); i++) {
            Matcher head = METHOD.matcher(lines.get(i));
            if (!head.matches() || lines.get(i).matches(" *(if|for|while|switch|\\}).*")) {
                continue;
            }
            methods++;
            int parameters = head.group(2).isEmpty() ? 0 : head.group(2).split(",").length;
            due.holds("at most seven parameters: " + lines.get(i), parameters <= 7);
            int end = i;
            while (end < lines.size() && !lines.get(end).equals(head.group(1) + "}")) {
                end++;
            }
            due.holds("at most sixty lines: " + lines.get(i), end - i < 60);
        }
        due.holds("the methods are found", methods > 30);
    }
}
