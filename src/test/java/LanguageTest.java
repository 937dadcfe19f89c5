import java.io.IOException;
import java.lang.reflect.Field;
import java.lang.reflect.Method;
import java.lang.reflect.Modifier;
import java.nio.file.Files;
import java.nio.file.Path;
import java.util.Set;
import java.util.TreeSet;
import java.util.regex.Matcher;
import java.util.regex.Pattern;

/** What of ../shared/LANGUAGE.md can be seen from the source and from the class by simple means. */
public final class LanguageTest {
    private static final Due DUE = new Due("LanguageTest");
    private static final String[] NEVER = {"\\bpackage\\b", "\\bthrow\\b", "\\btry\\b", "\\bcatch\\b", "\\bassert\\b",
        "\\bsynchronized\\b", "->", "::", "\\bfloat\\b", "\\bObject\\b", "\\bSystem\\.(?!arraycopy)", "\\bwhile\\b",
        "static\\s*\\{", "\\bMath\\.(?!max|min|abs)", "\\bArrays\\.(?!fill)", "\\bThread\\b", "Exact", "\\bInteger\\.",
        "\\bLong\\.", "\"", "\\bhashCode\\b", "\\btoString\\b", "\\bnew (?!int\\[|long\\[|byte\\[|Facts|Wear|Mind|Course|"
        + "World|Changes|Acts|Shelf|Steps|Reader)"};

    public static void main(String[] args) throws IOException {
        String source = Files.readString(Path.of(args.length > 0 ? args[0] : "src/main/java/LastMender.java"));
        DUE.is("rule 4: signs 1 to 127 alone", source.chars().filter(c -> c < 1 || c > 127).count(), 0);
        String bare = source.replaceAll("(?s)/\\*.*?\\*/", " ").replaceAll("//[^\n]*", " ");
        for (String never : NEVER) DUE.is("has " + never, count(bare, never), 0);
        DUE.is("rule 4: imports", count(bare, "\\bimport\\b"), 1);
        DUE.is("rule 4: Arrays alone", count(bare, "import java\\.util\\.Arrays;"), 1);
        int classes = count(bare, "\\b(class|interface|enum|record)\\s+[A-Z]");
        DUE.is("rule 11: classes", classes <= 12 ? 1 : classes, 1);
        DUE.is("rule 12: nothing is made but by constructors", count(bare, "(return|\\() *new\\b"), 0);
        methodLengths(bare);
        face();
        DUE.end();
    }

    private static int count(String text, String pattern) {
        Matcher m = Pattern.compile(pattern).matcher(text);
        int n = 0;
        while (m.find()) n++;
        return n;
    }

    private static void methodLengths(String bare) {
        String[] lines = bare.split("\n");
        for (int i = 0; i < lines.length; i++) {
            if (!lines[i].matches(" +[a-z].*\\) \\{") || lines[i].matches(" *(if|for|switch|else).*")) continue;
            String indent = lines[i].replaceAll("\\S.*", "");
            int end = i;
            while (end < lines.length && !lines[end].equals(indent + "}")) end++;
            DUE.is("rule 11: long method at " + lines[i].trim(), end - i <= 60 ? 0 : end - i, 0);
        }
    }

    private static void face() {
        Set<String> open = new TreeSet<>();
        for (Method m : LastMender.class.getDeclaredMethods()) {
            if (Modifier.isPublic(m.getModifiers())) open.add(m.getName());
            else DUE.is("rule 1: " + m.getName(), Modifier.isPrivate(m.getModifiers()) ? 1 : 0, 1);
        }
        DUE.is("rule 1: calls", open.size(), 35);
        DUE.is("rule 1: final", Modifier.isFinal(LastMender.class.getModifiers()) ? 1 : 0, 1);
        oneClass(LastMender.class, open);
        for (Class<?> c : LastMender.class.getDeclaredClasses()) {
            DUE.is("rule 2: static " + c.getName(), Modifier.isStatic(c.getModifiers()) ? 1 : 0, 1);
            DUE.is("rule 1: private " + c.getName(), Modifier.isPrivate(c.getModifiers()) ? 1 : 0, 1);
            oneClass(c, open);
        }
        DUE.is("BAD", LastMender.BAD, -1);
        DUE.is("NOT", LastMender.NOT, -2);
        DUE.is("FULL", LastMender.FULL, -3);
        DUE.is("STATE", LastMender.STATE, -5);
        DUE.is("VOID", LastMender.VOID, -2000000000);
    }

    private static void oneClass(Class<?> c, Set<String> open) {
        int fields = 0;
        for (Field f : c.getDeclaredFields()) {
            if (Modifier.isStatic(f.getModifiers())) {
                DUE.is("rule 5: final " + f, Modifier.isFinal(f.getModifiers()) ? 1 : 0, 1);
            } else {
                fields++;
            }
            boolean seen = !Modifier.isPrivate(f.getModifiers()) && c == LastMender.class;
            boolean told = "BAD NOT FULL STATE VOID".contains(f.getName());
            DUE.is("rule 1: " + f, seen && !told ? 1 : 0, 0);
        }
        DUE.is("rule 11: fields of " + c.getName(), fields <= 20 ? 0 : fields, 0);
        for (Method m : c.getDeclaredMethods()) {
            if (Modifier.isPublic(m.getModifiers())) continue;
            DUE.is("rule 1: private " + m.getName() + " in " + c.getName(), open.contains(m.getName()) ? 1 : 0, 0);
            DUE.is("rule 11: arguments of " + m.getName(), m.getParameterCount() <= 7 ? 1 : 0, 1);
        }
    }
}
