import java.io.IOException;
import java.nio.file.Files;
import java.nio.file.Path;
import java.util.ArrayList;
import java.util.List;
import java.util.TreeSet;
import java.util.regex.Matcher;
import java.util.regex.Pattern;

/** What of ../shared/LANGUAGE.md the text of the class can show: run from the project's folder. */
public final class LanguageTest {
    private static final Due due = new Due();
    private static final Pattern METHOD = Pattern.compile("^ +((?:public|private|static|final) )*[\\w\\[\\]]+ (\\w+)\\(([^)]*)\\).*\\{$");

    public static void main(String[] args) throws IOException {
        List<String> lines = Files.readAllLines(Path.of("src/main/java/SkewRings.java"));
        words(lines);
        classes(lines);
        methods(lines);
        arraysAndDivisors(lines);
        due.finish("LanguageTest");
    }

    private static String code(String line) {
        int at = line.indexOf("//");
        String s = at >= 0 ? line.substring(0, at) : line;
        return s.strip().startsWith("*") || s.strip().startsWith("/**") ? "" : s;
    }

    private static void words(List<String> lines) {
        String[] forbidden = {"->", "::", "catch", "try ", "finally", "synchronized", "assert ", "protected", "package ", "Exact(",
            "hashCode", "toString", "equals(", "static {", "System.", "double", "float", "Random", "Thread"};
        int n = 0;
        for (String line : lines) {
            n++;
            for (String word : forbidden) due.holds("rule 4, 6 line " + n + " has no " + word, !code(line).contains(word));
            due.holds("line " + n + " is of signs up to 127", line.chars().allMatch(c -> c < 128));
            if (line.startsWith("import ")) due.holds("rule 4 line " + n, line.equals("import java.util.NoSuchElementException;"));
            if (code(line).contains("throw ")) due.holds("rule 6 line " + n, line.strip().equals("throw new NoSuchElementException();"));
            if (code(line).contains(" static ") && code(line).contains(" = ")) due.holds("rule 5 line " + n, code(line).contains(" final int "));
        }
    }

    private static void classes(List<String> lines) {
        int many = 0;
        for (String line : lines) {
            if (!code(line).contains(" class ")) continue;
            many++;
            due.holds("rule 2 " + line.strip(), line.startsWith("public final class") || line.startsWith("    private static final class"));
        }
        due.holds("rule 11: twelve classes", many <= 12);
    }

    private static void methods(List<String> lines) {
        TreeSet<String> open = new TreeSet<>();
        List<String> others = new ArrayList<>();
        int start = 0;
        for (int n = 0; n < lines.size(); n++) {
            Matcher m = METHOD.matcher(lines.get(n));
            if (m.matches() && !lines.get(n).contains(" new ") && !lines.get(n).strip().startsWith("return")) {
                start = n;
                if (lines.get(n).contains("public ")) open.add(m.group(2)); else others.add(m.group(2));
                due.holds("rule 11: seven parameters, line " + (n + 1), m.group(3).split(",").length <= 7);
            }
            String line = lines.get(n);
            if (line.equals("    }") || line.equals("        }")) due.holds("rule 11: sixty lines, line " + (n + 1), n - start <= 60 || line.equals("    }"));
        }
        due.is("the face has a constructor and 55 methods", open.size(), 56);
        for (String name : others) due.holds("rule 1: " + name + " is no name of the face", !open.contains(name));
    }

    /** A divisor is a constant, or is looked at in the same line or just before it. */
    private static void arraysAndDivisors(List<String> lines) {
        Pattern division = Pattern.compile("[^/*] [/%]=? ([\\w.]+)");
        for (int n = 0; n < lines.size(); n++) {
            Matcher m = division.matcher(code(lines.get(n)));
            while (m.find()) {
                StringBuilder near = new StringBuilder();
                for (int k = Math.max(0, n - 12); k <= n; k++) near.append(code(lines.get(k))).append('\n');
                String by = m.group(1);
                due.holds("rule 7 line " + (n + 1) + ": " + by + " is looked at", near.toString().contains(by + " > 0") || near.toString().contains(by + " < 1"));
            }
        }
    }
}
