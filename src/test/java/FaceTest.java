import java.io.IOException;
import java.lang.reflect.Constructor;
import java.lang.reflect.Field;
import java.lang.reflect.Method;
import java.lang.reflect.Modifier;
import java.nio.file.Files;
import java.nio.file.Path;
import java.util.Arrays;
import java.util.HashSet;
import java.util.List;
import java.util.Set;
import java.util.TreeSet;
import java.util.regex.Matcher;
import java.util.regex.Pattern;

/** The public face, and the rules of the language as far as they can be seen from outside. */
public final class FaceTest {
    private static int wrong = 0;

    private static final String[] FACE = {
        "int feed(int,int,int,int,int)", "boolean end(int)", "int card(int)", "int cards(int)",
        "int column(int,int,int) throws NoSuchElementException", "int empty(int)", "int board()", "int fault()",
        "int run(int,int)", "int ran(int)", "int bar(int,int) throws NoSuchElementException",
        "int wheel(int) throws NoSuchElementException", "boolean pass(int,int)", "int idle(int)", "int missing(int)",
        "int wire(int)", "int tests(int)", "int testSet()", "int shown()", "int job()", "int runs()", "int wants(int)",
        "int make(int)", "int wanted(int,int)", "int wantedAt(int,int) throws NoSuchElementException",
        "int same(int,int)", "int needed(int)", "int neededSet()", "int unseen(int)", "int unseenAt(int)",
        "int moves(int)", "int move(int,int)", "boolean keep(int)", "int use(int)", "int apart(int,int)",
        "int friday()", "int fridayAt(int)", "int count(int)"};

    private static void check(boolean fine, String what) {
        if (!fine) {
            wrong++;
            System.out.println(what);
        }
    }

    private static String written(Method m) {
        StringBuilder b = new StringBuilder();
        b.append(m.getReturnType().getSimpleName()).append(' ').append(m.getName()).append('(');
        for (int i = 0; i < m.getParameterCount(); i++) {
            b.append(i == 0 ? "" : ",").append(m.getParameterTypes()[i].getSimpleName());
        }
        b.append(')');
        for (Class<?> e : m.getExceptionTypes()) {
            b.append(" throws ").append(e.getSimpleName());
        }
        return b.toString();
    }

    private static void face() {
        Class<?> c = PlugHall.class;
        check(Modifier.isPublic(c.getModifiers()) && Modifier.isFinal(c.getModifiers()), "the class is public and final");
        Set<String> due = new TreeSet<>(Arrays.asList(FACE));
        Set<String> names = new HashSet<>();
        for (Method m : c.getDeclaredMethods()) {
            if (Modifier.isPublic(m.getModifiers())) {
                check(due.remove(written(m)), "not in the face: " + written(m));
                names.add(m.getName());
            } else {
                check(Modifier.isPrivate(m.getModifiers()), "neither public nor private: " + m);
            }
        }
        check(due.isEmpty(), "missing in the face: " + due);
        for (Field f : c.getDeclaredFields()) {
            check(f.getName().equals("NONE") || Modifier.isPrivate(f.getModifiers()), "a field not private: " + f);
        }
        Constructor<?>[] made = c.getDeclaredConstructors();
        check(made.length == 1 && Modifier.isPublic(made[0].getModifiers()) && made[0].getParameterCount() == 0,
            "one public constructor");
        check(c.getDeclaredClasses().length <= 12, "too many classes");
        shape(c, names);
        for (Class<?> inner : c.getDeclaredClasses()) {
            check(Modifier.isStatic(inner.getModifiers()) && !Modifier.isPublic(inner.getModifiers()),
                "not static and hidden: " + inner);
            shape(inner, names);
        }
    }

    private static void shape(Class<?> c, Set<String> names) {
        int own = 0;
        for (Field f : c.getDeclaredFields()) {
            if (Modifier.isStatic(f.getModifiers())) {
                check(Modifier.isFinal(f.getModifiers()), "static and not final: " + f);
            } else {
                own++;
            }
        }
        check(own <= 20, "more than twenty fields: " + c);
        for (Method m : c.getDeclaredMethods()) {
            check(m.getParameterCount() <= 7, "more than seven parameters: " + m);
            check(!Modifier.isPrivate(m.getModifiers()) || !names.contains(m.getName()), "a name of the face: " + m);
        }
    }

    private static void source(String text) {
        String code = text.replaceAll("(?s)/\\*.*?\\*/", "").replaceAll("//[^\n]*", "");
        Matcher imports = Pattern.compile("import ([\\w.]+);").matcher(code);
        while (imports.find()) {
            check(List.of("java.util.Arrays", "java.util.NoSuchElementException").contains(imports.group(1)),
                "import " + imports.group(1));
        }
        String bare = code.replaceAll("\"[^\"]*\"", "\"\"").replaceAll("'[^']*'", "' '");
        for (String word : new String[] {"->", "::", "\\btry\\b", "\\bcatch\\b", "\\bfinally\\b", "\\bassert\\b",
            "\\bsynchronized\\b", "\\bpackage\\b", "\"\" *\\+", "\\+ *\"\"", "Exact\\b", "\\bObject\\b", "\\bhashCode\\b",
            "\\bSystem\\.(?!arraycopy)", "Math\\.(?!abs|max|min)", "Arrays\\.(?!fill)", "static *\\{", "float", "double"}) {
            Matcher m = Pattern.compile(word).matcher(bare);
            check(!m.find(), "the source has " + word);
        }
        Matcher thrown = Pattern.compile("throw ([^;]*);").matcher(code);
        while (thrown.find()) {
            check(thrown.group(1).equals("new NoSuchElementException()"), "throws " + thrown.group(1));
        }
        for (int i = 0; i < text.length(); i++) {
            check(text.charAt(i) < 128, "a sign beyond 127 at " + i);
        }
        methodLengths(code);
    }

    /** A method begins and ends at lines of one indentation, four or eight. */
    private static void methodLengths(String code) {
        String[] lines = code.split("\n");
        for (int i = 0; i < lines.length; i++) {
            if (lines[i].matches("(    |        )[^ }@].*\\).*\\{") && !lines[i].contains(" class ")) {
                String close = lines[i].replaceAll("[^ ].*", "") + "}";
                int j = i;
                while (j < lines.length && !lines[j].equals(close)) {
                    j++;
                }
                check(j - i < 60, "a long method: " + lines[i].trim());
            }
        }
    }

    public static void main(String[] args) throws IOException {
        face();
        check(args.length == 1, "the source's path is the argument");
        if (args.length == 1) {
            source(Files.readString(Path.of(args[0])));
        }
        System.out.println(wrong == 0 ? "the face and the language are as told" : wrong + " things are not as told");
        if (wrong != 0) {
            System.exit(1);
        }
    }
}
