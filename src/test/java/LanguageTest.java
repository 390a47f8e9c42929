import java.io.IOException;
import java.lang.reflect.Constructor;
import java.lang.reflect.Field;
import java.lang.reflect.Method;
import java.lang.reflect.Modifier;
import java.nio.file.Files;
import java.nio.file.Path;
import java.util.List;
import java.util.TreeSet;

/** What of ../shared/LANGUAGE.md the class and its text can show: run from the project's folder. */
public final class LanguageTest {
    private static final Due due = new Due();
    private static final String FACE = "field plus times inverse map norm conjugates classes sign end tells degree number adds takes scales "
        + "multiplies quotient remainder divisor multiple steps crosses maps monic form same power turned cofactors fits value roots does "
        + "kernel solves reaches basis shares eigen vanishes divisors prime factors factor ways likes like commuting central bound part "
        + "primes count row";

    public static void main(String[] args) throws IOException {
        List<String> lines = Files.readAllLines(Path.of("src/main/java/SkewRings.java"));
        words(lines);
        lengths(lines);
        due.holds("rule 11: some twelve classes", SkewRings.class.getDeclaredClasses().length < 14);
        face();
        for (Class<?> inside : SkewRings.class.getDeclaredClasses()) inside(inside);
        fields(SkewRings.class);
        due.finish("LanguageTest");
    }

    private static String code(String line) {
        int at = line.indexOf("//");
        String s = at >= 0 ? line.substring(0, at) : line;
        return s.strip().startsWith("*") || s.strip().startsWith("/**") ? "" : s;
    }

    private static void words(List<String> lines) {
        String[] forbidden = {"::", "finally", "synchronized", "assert ", "protected ", "Exact(", "hashCode", "static {", "Random", "Thread",
            "System.out", "System.err", "System.nano", "System.current", "System.exit", "getMessage"};
        String[] thrown = {"IllegalStateException", "IllegalArgumentException", "IndexOutOfBoundsException", "ArithmeticException",
            "UnsupportedOperationException", "NoSuchElementException", "RuntimeException"};
        int n = 0;
        for (String line : lines) {
            n++;
            String code = code(line);
            for (String word : forbidden) due.holds("rules 4 to 6, line " + n + " has no " + word, !code.contains(word));
            due.holds("rule 3, line " + n + " is of signs up to 127", line.chars().allMatch(c -> c < 128));
            due.holds("rule 1, line " + n + " is no package", !code.startsWith("package "));
            due.holds("rule 2, line " + n + " has no lambda", !code.contains("->") || code.contains("case ") || code.contains("default"));
            if (code.startsWith("import ")) due.holds("rule 4, line " + n, code.startsWith("import java.util."));
            if (code.contains("throw ")) {
                boolean known = false;
                for (String e : thrown) known |= code.contains("throw new " + e + "(");
                due.holds("rule 6, line " + n + ": " + code.strip(), known);
            }
        }
    }

    /** Rule 11: methods stay short; a head ends with ") {" or with what is thrown, and the brace below it closes it. */
    private static void lengths(List<String> lines) {
        int head = 0;
        int indent = 0;
        for (int n = 1; n <= lines.size(); n++) {
            String line = lines.get(n - 1);
            int blanks = line.length() - line.stripLeading().length();
            boolean opens = line.matches("    (    )?[a-zA-Z].*\\) (throws \\w+ )?\\{") && !line.matches(" +(if|for|while|switch|else|do)\\b.*");
            if (opens && head == 0) {
                head = n;
                indent = blanks;
            } else if (head > 0 && blanks == indent && line.strip().equals("}")) {
                due.holds("rule 11: the method at line " + head + " has " + (n - head + 1) + " lines", n - head + 1 <= 60);
                head = 0;
            }
        }
        due.is("rule 11: each method ends", head, 0);
    }

    /** Rule 1: the face is the document's, and nothing else is seen from outside. */
    private static void face() {
        due.holds("rule 1: public and final", Modifier.isPublic(SkewRings.class.getModifiers()) && Modifier.isFinal(SkewRings.class.getModifiers()));
        TreeSet<String> due55 = new TreeSet<>(List.of(FACE.split(" ")));
        TreeSet<String> open = new TreeSet<>();
        for (Method m : SkewRings.class.getDeclaredMethods()) {
            if (m.isSynthetic()) continue;
            if (Modifier.isPublic(m.getModifiers())) open.add(m.getName());
            else due.holds("rule 1: " + m.getName() + " is private", Modifier.isPrivate(m.getModifiers()));
            if (Modifier.isPrivate(m.getModifiers())) due.holds("rule 1: " + m.getName() + " is no name of the face", !due55.contains(m.getName()));
        }
        due.holds("the face has what the document names: " + open, open.equals(due55));
        for (Constructor<?> c : SkewRings.class.getDeclaredConstructors()) due.is("one constructor, without parameters", c.getParameterCount(), 0);
        for (Field f : SkewRings.class.getDeclaredFields()) {
            if (!f.isSynthetic()) due.holds("rule 1: " + f.getName(), Modifier.isPrivate(f.getModifiers()) || f.getName().equals("NONE"));
        }
    }

    private static void inside(Class<?> c) {
        due.holds("rule 1: " + c.getName() + " is not public", !Modifier.isPublic(c.getModifiers()) && !Modifier.isProtected(c.getModifiers()));
        fields(c);
        TreeSet<String> face = new TreeSet<>(List.of(FACE.split(" ")));
        for (Method m : c.getDeclaredMethods()) {
            due.holds("rule 11: " + m.getName() + " takes at most seven parameters", m.getParameterCount() <= 7);
            if (Modifier.isPrivate(m.getModifiers())) due.holds("rule 1: " + m.getName() + " is no name of the face", !face.contains(m.getName()));
        }
    }

    /** Rule 5: static fields are final; rule 11: some twenty fields beside the constants. */
    private static void fields(Class<?> c) {
        int many = 0;
        for (Field f : c.getDeclaredFields()) {
            if (f.isSynthetic()) continue;
            if (Modifier.isStatic(f.getModifiers())) due.holds("rule 5: " + f.getName() + " is final", Modifier.isFinal(f.getModifiers()));
            else many++;
        }
        due.holds("rule 11: fields of " + c.getName() + ": " + many, many <= 24);
    }
}
