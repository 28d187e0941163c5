import java.io.IOException;
import java.nio.file.Files;
import java.nio.file.Path;
import java.util.List;
import java.util.regex.Matcher;
import java.util.regex.Pattern;

/** The rules of LANGUAGE.md that can be read off the program's text. It is run from the project's folder. */
public final class LanguageTest {
    private static final Path PROGRAM = Path.of("src/main/java/PartitionedProcedureStore.java");
    private static final String[] FORBIDDEN = {
        "\\bthrow\\b", "\\bthrows\\b", "\\btry\\b", "\\bcatch\\b", "\\bsynchronized\\b", "\\bassert\\b", "->", "::",
        "\\bpackage\\b", "\\bSystem\\.(?!arraycopy)", "\\bprotected\\b", "static\\s*\\{", "\\w+Exact\\b", "\\bRandom\\b",
        "\\bThread\\b", "\\bObject\\b", "\\bhashCode\\b", "\\btoString\\b", "while \\(true\\)", "for \\(;;\\)"};
    private static final Pattern METHOD = Pattern.compile("^( +)(?!return|else|new)[\\w<>\\[\\] ]*?\\w+\\(([^()]*)\\) \\{$");
    private static final Due due = new Due("LanguageTest");

    public static void main(String[] args) throws IOException {
        List<String> lines = Files.readAllLines(PROGRAM);
        int classes = 0;
        for (String line : lines) {
            String code = line.replaceAll("//.*|^\\s*/?\\*.*", "");
            for (String word : FORBIDDEN) {
                due.holds("no " + word + " in: " + line, !Pattern.compile(word).matcher(code).find());
            }
            if (code.startsWith("import")) {
                due.holds("allowed: " + code, code.matches("import java\\.util\\.(ArrayList|Arrays|List|Iterator);"));
            }
            if (code.matches(".*\\b(class|record|enum|interface) \\w+.*\\{")) {
                classes++;
                due.holds("static and final: " + code, code.matches("public final class.*|.*static final class.*"));
            }
        }
        due.holds("at most twelve classes", classes >= 1 && classes <= 12);
        methodsStayShort(lines);
        due.end();
    }

    private static void methodsStayShort(List<String> lines) {
        int methods = 0;
        for (int i = 0; i < lines.size(); i++) {
            Matcher head = METHOD.matcher(lines.get(i));
            if (!head.matches() || lines.get(i).matches(" *(if|for|while|switch|\\}).*")) {
                continue;
            }
            methods++;
            int parameters = head.group(2).isEmpty() ? 0 : head.group(2).split(",").length;
            due.holds("at most seven parameters: " + lines.get(i), parameters <= 7);
            int end = i;
            while (end < lines.size() && !lines.get(end).equals(head.group(1) + "}")) {
                end++;
            }
            due.holds("at most sixty lines: " + lines.get(i), end - i < 60);
        }
        due.holds("the methods are found", methods > 30);
    }
}
