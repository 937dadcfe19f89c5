import java.io.IOException;
import java.lang.reflect.Method;
import java.lang.reflect.Modifier;
import java.nio.file.Files;
import java.nio.file.Path;
import java.util.HashSet;
import java.util.Set;
import java.util.regex.Matcher;
import java.util.regex.Pattern;

/** README.md's example answers as README.md says, and README.md names every call of the face. */
public final class ReadmeTest {
    private static final Due DUE = new Due("ReadmeTest");
    private static final Pattern CALL = Pattern.compile("x\\.(\\w+)\\((.*)\\); +// (-?\\d+).*");
    private static final Pattern TEXT =
        Pattern.compile("for \\(char c : \"(.*)\"\\.toCharArray\\(\\)\\) x\\.feed\\(c\\);");

    public static void main(String[] args) throws IOException, ReflectiveOperationException {
        String page = Files.readString(Path.of("README.md"));
        example(page.substring(page.indexOf("```java") + 7).split("```")[0]);
        Set<String> named = new HashSet<>();
        Matcher m = Pattern.compile("`(\\w+)`").matcher(page);
        while (m.find()) named.add(m.group(1));
        for (Method call : LastMender.class.getDeclaredMethods()) {
            boolean isOpen = Modifier.isPublic(call.getModifiers());
            if (isOpen) DUE.is(call.getName() + " is named", named.contains(call.getName()) ? 1 : 0, 1);
        }
        DUE.end();
    }

    private static void example(String block) throws ReflectiveOperationException {
        LastMender x = new LastMender();
        for (String line : block.strip().split("\n")) {
            Matcher call = CALL.matcher(line), text = TEXT.matcher(line);
            if (call.matches()) {
                DUE.is(line, answer(x, call.group(1), call.group(2)), Long.parseLong(call.group(3)));
            } else if (text.matches()) {
                Due.feed(x, text.group(1));
            } else {
                DUE.is("[" + line + "] begins it all", line.equals("LastMender x = new LastMender();") ? 1 : 0, 1);
            }
        }
    }

    private static long answer(LastMender x, String name, String arguments) throws ReflectiveOperationException {
        String[] told = arguments.isEmpty() ? new String[0] : arguments.split(", ");
        Class<?>[] types = new Class<?>[told.length];
        Object[] with = new Object[told.length];
        for (int i = 0; i < told.length; i++) {
            types[i] = int.class;
            with[i] = Integer.parseInt(told[i]);
        }
        return ((Number) LastMender.class.getMethod(name, types).invoke(x, with)).longValue();
    }
}
