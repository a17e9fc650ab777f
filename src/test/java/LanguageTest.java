import java.io.IOException;
import java.lang.reflect.Constructor;
import java.lang.reflect.Field;
import java.lang.reflect.Method;
import java.lang.reflect.Modifier;
import java.nio.file.Files;
import java.nio.file.Path;
import java.util.TreeSet;
import java.util.regex.Matcher;
import java.util.regex.Pattern;

/** The document's face, and rules of LANGUAGE.md that can be looked for in the text of the class. */
final class LanguageTest {
    private static final String[] FACE = {
        "int feed(int,int,int,int,int)", "boolean end(int)", "int heap()", "int fault(int)", "int has(int)",
        "int word(int,int)", "int stage(int)", "int kept(int,int)", "int cell(int,int)", "int cellOf(int)",
        "int goes(int)", "int comes(int)", "int block(int,int)", "int chain(int,int)", "int longest(int)",
        "int steps(int)", "int room(int,int)", "int far(int)", "int way(int,int)", "int keeps(int)",
        "int retains(int)", "int best(int)", "int found(int)", "int remember()", "int alike()", "int see()",
        "int then(int)", "int tells(int)", "int run()", "int failed(int)", "int collect()", "int begin()",
        "int step(int)", "boolean method(int)", "int chance(int)", "boolean undo()", "boolean seed(int)",
        "int image()", "int octet(int)", "boolean on()", "int status(int)"};

    public static void main(String[] args) throws IOException {
        face();
        text(Files.readString(Path.of("src/main/java/CellSlide.java")));
        Check.end();
    }

    private static void face() {
        TreeSet<String> due = new TreeSet<>(java.util.Arrays.asList(FACE));
        TreeSet<String> names = new TreeSet<>();
        for (String one : FACE) {
            names.add(one.replaceAll(".* |\\(.*", ""));
        }
        TreeSet<String> got = new TreeSet<>();
        for (Method m : CellSlide.class.getDeclaredMethods()) {
            StringBuilder text = new StringBuilder(m.getReturnType() + " " + m.getName() + "(");
            for (Class<?> p : m.getParameterTypes()) {
                text.append(text.charAt(text.length() - 1) == '(' ? "" : ",").append(p);
            }
            if (Modifier.isPublic(m.getModifiers())) {
                got.add(text.append(')').toString());
            } else {
                Check.due(m + " is private", Modifier.isPrivate(m.getModifiers()), true);
                Check.due(m + " has a name of its own", names.contains(m.getName()), false);
            }
        }
        Check.due("the face is " + got, got.equals(due), true);
        for (Field f : CellSlide.class.getDeclaredFields()) {
            boolean constant = f.getName().equals("NONE") || f.getName().equals("NOTHING");
            Check.due(f + " is as the document says", Modifier.isPublic(f.getModifiers()), constant);
            Check.due(f + " is private else", Modifier.isPrivate(f.getModifiers()), !constant);
        }
        for (Constructor<?> c : CellSlide.class.getDeclaredConstructors()) {
            Check.due(c + " is public", Modifier.isPublic(c.getModifiers()), true);
            Check.due(c + " takes nothing", c.getParameterCount(), 0);
        }
        int classes = 1;
        for (Class<?> inside : CellSlide.class.getDeclaredClasses()) {
            classes++;
            Check.due(inside + " is static", Modifier.isStatic(inside.getModifiers()), true);
            int fields = 0;
            for (Field f : inside.getDeclaredFields()) {
                fields += Modifier.isStatic(f.getModifiers()) ? 0 : 1;
            }
            Check.due(inside + " has few fields", fields <= 20, true);
            for (Method m : inside.getDeclaredMethods()) {
                Check.due(m + " has a name of its own", names.contains(m.getName()), false);
                Check.due(m + " takes few", m.getParameterCount() <= 7, true);
            }
        }
        Check.due("there are few classes", classes <= 12, true);
        Check.due("the class is final", Modifier.isFinal(CellSlide.class.getModifiers()), true);
    }

    private static void text(String source) {
        String code = source.replaceAll("/\\*(?s:.*?)\\*/|//[^\\n]*|\"[^\"\\n]*\"", " ");
        Matcher banned = Pattern.compile("\\b(throw|throws|try|catch|synchronized|assert|package|Exception|"
            + "Object|Thread|System\\.(?!arraycopy)\\w+|Math\\.random|\\w*Exact|equals|hashCode|toString)\\b|->|::")
            .matcher(code);
        while (banned.find()) {
            Check.due("the text has " + banned.group(), true, false);
        }
        Matcher imports = Pattern.compile("import ([^;]*);").matcher(code);
        while (imports.find()) {
            Check.due("imports " + imports.group(1), imports.group(1).equals("java.util.Arrays"), true);
        }
        Matcher statics = Pattern.compile("\\bstatic (?!final)[^({;]*[;=]").matcher(code);
        while (statics.find()) {
            Check.due("static state: " + statics.group(), true, false);
        }
    }
}
