import java.lang.reflect.Constructor;
import java.lang.reflect.Field;
import java.lang.reflect.Method;
import java.lang.reflect.Modifier;
import java.nio.file.Files;
import java.nio.file.Path;
import java.util.ArrayList;
import java.util.List;
import java.util.Set;
import java.util.TreeSet;
import java.util.regex.Matcher;
import java.util.regex.Pattern;

/** The document's face, and the rules of ../shared/LANGUAGE.md that a program can look at. */
public final class LanguageTest {
    private static final String[] BANNED = {"\\bthrow\\b", "\\bthrows\\b", "\\btry\\b", "\\bcatch\\b", "\\bsynchronized\\b", "\\bassert\\b",
        "\\bimport\\b", "\\bpackage\\b", "->", "::", "Exact\\b", "\\bThread\\b", "\\bObject\\b", "\\bfloat\\b", "\\bdouble\\b",
        "\\bequals\\b", "\\bhashCode\\b", "\\btoString\\b", "\\bprintln\\b", "\\bRandom\\b", "currentTimeMillis", "nanoTime",
        "\\bprotected\\b", "\\bvar\\b"};

    public static void main(String[] args) throws Exception {
        Path root = Path.of(System.getProperty("thinbodies.root", "."));
        String source = Files.readString(root.resolve("src/main/java/ThinBodies.java"));
        face(Files.readString(root.resolve("../shared/DOC.md")));
        List<Class<?>> classes = new ArrayList<>();
        collect(ThinBodies.class, classes);
        Checks.due("rule 11: some twelve classes", classes.size() <= 12 ? 1 : 0, 1);
        for (Class<?> c : classes) {
            members(c);
        }
        words(source);
        lengths(source);
        Checks.end();
    }

    private static void collect(Class<?> c, List<Class<?>> all) {
        all.add(c);
        for (Class<?> inner : c.getDeclaredClasses()) {
            collect(inner, all);
        }
    }

    private static void face(String document) {
        Set<String> due = new TreeSet<>();
        Matcher m = Pattern.compile("(?m)^    public (int|long) (\\w+)\\((.*)\\);$").matcher(document);
        while (m.find()) {
            due.add(m.group(1) + " " + m.group(2) + "(" + m.group(3).replaceAll(" \\w+(,|$)", "$1") + ")");
        }
        Set<String> got = new TreeSet<>();
        for (Method method : ThinBodies.class.getDeclaredMethods()) {
            if (Modifier.isPublic(method.getModifiers())) {
                StringBuilder types = new StringBuilder();
                for (Class<?> type : method.getParameterTypes()) {
                    types.append(types.length() == 0 ? "" : ", ").append(type.getName());
                }
                got.add(method.getReturnType() + " " + method.getName() + "(" + types + ")");
            }
        }
        Checks.due("rule 1: as many methods as the document has", got.size(), 46 - 1);
        if (!due.equals(got)) {
            Checks.fail("rule 1: the face is " + got + ", due is " + due);
        }
        Checks.due("rule 1: public and final", ThinBodies.class.getModifiers(), Modifier.PUBLIC | Modifier.FINAL);
        for (Constructor<?> made : ThinBodies.class.getDeclaredConstructors()) {
            Checks.due("rule 1: a public constructor", made.getModifiers(), Modifier.PUBLIC);
            Checks.due("rule 1: without arguments", made.getParameterCount(), 0);
        }
    }

    private static void members(Class<?> c) {
        boolean outer = c == ThinBodies.class;
        Set<String> open = new TreeSet<>();
        for (Method method : ThinBodies.class.getMethods()) {
            open.add(method.getName());
        }
        if (!outer && (!Modifier.isStatic(c.getModifiers()) || Modifier.isPublic(c.getModifiers()))) {
            Checks.fail("rules 1, 2: " + c.getName());
        }
        for (Method method : c.getDeclaredMethods()) {
            int flags = method.getModifiers();
            if (outer && !Modifier.isPublic(flags) && !Modifier.isPrivate(flags)) {
                Checks.fail("rule 1: " + method);
            }
            if (!(outer && Modifier.isPublic(flags)) && open.contains(method.getName())) {
                Checks.fail("rule 1: bears the name of a public one: " + method);
            }
            Checks.due("rule 11: parameters of " + method, method.getParameterCount() <= 7 ? 1 : 0, 1);
        }
        int fields = 0;
        for (Field field : c.getDeclaredFields()) {
            int flags = field.getModifiers();
            if (outer && !Modifier.isPrivate(flags)) {
                Checks.fail("rule 1: " + field);
            }
            if (Modifier.isStatic(flags) && !Modifier.isFinal(flags)) {
                Checks.fail("rule 5: " + field);
            }
            fields += Modifier.isStatic(flags) ? 0 : 1;
        }
        Checks.due("rule 11: fields of " + c.getName(), fields <= 20 ? 1 : 0, 1);
    }

    private static String bare(String source) {
        return source.replaceAll("(?s)/\\*.*?\\*/", "").replaceAll("//[^\n]*", "").replaceAll("\"[^\"]*\"", "\"\"");
    }

    private static void words(String source) {
        String bare = bare(source);
        for (String banned : BANNED) {
            if (Pattern.compile(banned).matcher(bare).find()) {
                Checks.fail("LANGUAGE.md leaves no " + banned);
            }
        }
        for (int i = 0; i < source.length(); i++) {
            if (source.charAt(i) > 126) {
                Checks.fail("rule 4: a sign beyond 126 at " + i);
            }
        }
    }

    /** A method begins at a line that ends with ") {" and isn't a statement's; it ends with its brace. */
    private static void lengths(String source) {
        String[] lines = source.split("\n");
        Pattern head = Pattern.compile("^( {4}| {8})(?! |if|for|while|switch|\\}).*\\) \\{$");
        for (int i = 0; i < lines.length; i++) {
            Matcher m = head.matcher(lines[i]);
            if (m.matches()) {
                int end = i;
                while (!lines[end].equals(m.group(1) + "}")) {
                    end++;
                }
                if (end - i > 60) {
                    Checks.fail("rule 11: too long: " + lines[i]);
                }
            }
        }
    }
}
