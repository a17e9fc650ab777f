import java.io.IOException;
import java.lang.reflect.InvocationTargetException;
import java.lang.reflect.Method;
import java.nio.file.Files;
import java.nio.file.Path;
import java.util.TreeSet;
import java.util.regex.Matcher;
import java.util.regex.Pattern;

/** README.md: the calls that it shows answer what it says, its helper is the one below, its table has every call. */
final class ReadmeTest {
    private static final Pattern FEEDS = Pattern.compile("text\\(x, \"([^\"]*)\"\\);");
    private static final Pattern CALLS = Pattern.compile("x\\.(\\w+)\\(([-\\d, ]*)\\); +// (true|false|-?\\d+)\\b.*");

    private static CellSlide x = null;

    public static void main(String[] args) throws IOException {
        String readme = Files.readString(Path.of("README.md"));
        shows(readme);
        helper(readme);
        table(readme);
        Check.end();
    }

    private static void shows(String readme) {
        int calls = 0;
        for (String line : readme.split("\n")) {
            Matcher feeds = FEEDS.matcher(line);
            Matcher call = CALLS.matcher(line);
            if (line.equals("CellSlide x = new CellSlide();")) {
                x = new CellSlide();
            } else if (feeds.matches()) {
                text(x, feeds.group(1));
            } else if (call.matches()) {
                calls++;
                String due = call.group(3).replace("true", "1").replace("false", "0");
                Check.due(line, answer(call.group(1), call.group(2)), Integer.parseInt(due));
            } else {
                Check.due("no line is left out: " + line, line.startsWith("x."), false);
            }
        }
        Check.due("it shows calls", calls > 20, true);
    }

    private static int answer(String name, String numbers) {
        String[] parts = numbers.isEmpty() ? new String[0] : numbers.split(", ");
        Object[] given = new Object[parts.length];
        for (int i = 0; i < parts.length; i++) {
            given[i] = Integer.parseInt(parts[i]);
        }
        for (Method method : CellSlide.class.getMethods()) {
            if (method.getName().equals(name) && method.getParameterCount() == given.length) {
                try {
                    Object got = method.invoke(x, given);
                    return got instanceof Integer number ? number : Boolean.TRUE.equals(got) ? 1 : 0;
                } catch (IllegalAccessException | InvocationTargetException thrown) {
                    Check.due(name + " does not throw: " + thrown, true, false);
                }
            }
        }
        Check.due("there is a call " + name, false, true);
        return 0;
    }

    private static void helper(String readme) throws IOException {
        String own = Files.readString(Path.of("src/test/java/ReadmeTest.java"));
        int at = readme.indexOf("static void text(");
        int end = readme.indexOf("```", at);
        Check.due("it has the helper", at > 0 && end > at, true);
        if (at > 0 && end > at) {
            String indented = "    " + readme.substring(at, end).trim().replace("\n", "\n    ") + "\n";
            Check.due("its helper is the one below", own.contains("\n" + indented), true);
        }
    }

    private static void table(String readme) {
        TreeSet<String> told = new TreeSet<>();
        Matcher row = Pattern.compile("(?m)^\\| (`[^|]*`) \\|").matcher(readme);
        while (row.find()) {
            for (String name : row.group(1).split(", ")) {
                Check.due(name + " is told once", told.add(name.replace("`", "")), true);
            }
        }
        int calls = 0;
        for (Method method : CellSlide.class.getMethods()) {
            if (method.getDeclaringClass() == CellSlide.class) {
                calls++;
                Check.due(method.getName() + " is told", told.contains(method.getName()), true);
            }
        }
        Check.due("no other is told", told.size(), calls);
    }

    static void text(CellSlide x, String text) {
        byte[] bytes = java.util.Arrays.copyOf(text.getBytes(), (text.length() + 19) / 20 * 20);
        java.nio.ByteBuffer fours = java.nio.ByteBuffer.wrap(bytes);
        while (fours.hasRemaining()) {
            x.feed(fours.getInt(), fours.getInt(), fours.getInt(), fours.getInt(), fours.getInt());
        }
        x.end(text.length());
    }
}
