import java.io.IOException;
import java.lang.reflect.Constructor;
import java.lang.reflect.Field;
import java.lang.reflect.Method;
import java.lang.reflect.Modifier;
import java.nio.file.Files;
import java.nio.file.Path;
import java.util.ArrayList;
import java.util.HashSet;
import java.util.List;
import java.util.Set;
import java.util.TreeSet;
import java.util.regex.Matcher;
import java.util.regex.Pattern;

/** The public face of the document, and the rules of LANGUAGE.md that can be seen from outside or in the source. */
public final class FaceTest {
    private static final Path SOURCE = Path.of("src/main/java/TugOfWar.java");
    private static final Path DOCUMENT = Path.of("../shared/DOC.md");
    private static final List<String> WRONG = new ArrayList<>();

    public static void main(String[] args) throws IOException {
        membersAreThoseOfTheDocument();
        nothingElseIsVisible();
        sourceKeepsToTheLanguage();
        callsGoNotTooDeep();
        WRONG.forEach(System.out::println);
        System.out.println("FaceTest: " + (WRONG.isEmpty() ? "all is as due" : WRONG.size() + " faults"));
        if (!WRONG.isEmpty()) {
            System.exit(1);
        }
    }

    private static void check(boolean holds, String what) {
        if (!holds) {
            WRONG.add(what);
        }
    }

    private static Set<String> documentMethods() throws IOException {
        Set<String> face = new TreeSet<>();
        Matcher m = Pattern.compile("^    public (int|long) (\\w+)\\((.*)\\);$", Pattern.MULTILINE)
            .matcher(Files.readString(DOCUMENT));
        while (m.find()) {
            int parameters = m.group(3).isEmpty() ? 0 : m.group(3).split(",").length;
            face.add(m.group(1) + " " + m.group(2) + " " + parameters);
        }
        return face;
    }

    private static void membersAreThoseOfTheDocument() throws IOException {
        Set<String> face = new TreeSet<>();
        for (Method m : TugOfWar.class.getDeclaredMethods()) {
            if (Modifier.isPublic(m.getModifiers())) {
                face.add(m.getReturnType() + " " + m.getName() + " " + m.getParameterCount());
                for (Class<?> p : m.getParameterTypes()) {
                    check(p == int.class, m.getName() + " takes " + p);
                }
            }
        }
        Set<String> due = documentMethods();
        check(due.size() == 37, "the document has " + due.size() + " methods");
        check(face.equals(due), "methods: " + face + ", due: " + due);
        check(Modifier.isFinal(TugOfWar.class.getModifiers()), "the class is not final");
        check(Modifier.isPublic(TugOfWar.class.getModifiers()), "the class is not public");
    }

    private static void nothingElseIsVisible() {
        Set<String> publicNames = new HashSet<>();
        for (Method m : TugOfWar.class.getDeclaredMethods()) {
            if (Modifier.isPublic(m.getModifiers())) {
                publicNames.add(m.getName());
            }
        }
        for (Method m : TugOfWar.class.getDeclaredMethods()) {
            boolean isPrivate = Modifier.isPrivate(m.getModifiers());
            check(isPrivate || Modifier.isPublic(m.getModifiers()), "visible method " + m);
            check(!isPrivate || !publicNames.contains(m.getName()), "private method with a public name " + m);
            check(m.getParameterCount() <= 7, "too many parameters: " + m);
        }
        Set<String> constants = new TreeSet<>();
        for (Field f : TugOfWar.class.getDeclaredFields()) {
            if (Modifier.isPublic(f.getModifiers())) {
                constants.add(f.getName());
            } else {
                check(Modifier.isPrivate(f.getModifiers()), "visible field " + f);
            }
            check(!Modifier.isStatic(f.getModifiers()) || Modifier.isFinal(f.getModifiers()), "static state " + f);
        }
        check(constants.equals(Set.of("NONE", "BAD", "NOT", "FULL")), "constants: " + constants);
        Constructor<?>[] constructors = TugOfWar.class.getDeclaredConstructors();
        check(constructors.length == 1 && Modifier.isPublic(constructors[0].getModifiers())
            && constructors[0].getParameterCount() == 0, "constructors");
        for (Class<?> inside : TugOfWar.class.getDeclaredClasses()) {
            int modifiers = inside.getModifiers();
            check(Modifier.isStatic(modifiers), "not static: " + inside);
            check(!Modifier.isPublic(modifiers) && !Modifier.isProtected(modifiers), "too visible: " + inside);
            check(fieldsOf(inside) <= 20, "too many fields: " + inside);
            for (Method m : inside.getDeclaredMethods()) {
                check(!publicNames.contains(m.getName()), "method with a public name " + m);
                check(m.getParameterCount() <= 7, "too many parameters: " + m);
            }
        }
        check(TugOfWar.class.getDeclaredClasses().length < 12, "too many classes");
        check(fieldsOf(TugOfWar.class) <= 20, "too many fields");
    }

    private static int fieldsOf(Class<?> c) {
        int n = 0;
        for (Field f : c.getDeclaredFields()) {
            n += Modifier.isStatic(f.getModifiers()) ? 0 : 1;
        }
        return n;
    }

    private static String sourceWithoutComments() throws IOException {
        String s = Files.readString(SOURCE).replaceAll("(?s)/\\*.*?\\*/", "");
        return s.replaceAll("//[^\n]*", "");
    }

    private static void sourceKeepsToTheLanguage() throws IOException {
        String s = sourceWithoutComments();
        String[] words = {"throw", "throws", "try", "catch", "synchronized", "assert", "import", "package", "native",
            "protected", "volatile", "transient", "double", "float"};
        for (String word : words) {
            check(!Pattern.compile("\\b" + word + "\\b").matcher(s).find(), "the source has the word " + word);
        }
        check(!s.contains("->") && !s.contains("::"), "the source has a lambda or a method reference");
        check(!s.contains("while"), "the source has a loop without a counter");
        check(s.chars().allMatch(c -> c < 128), "the source has a sign above 127");
        methodsAreShort();
    }

    private static void methodsAreShort() throws IOException {
        List<String> lines = Files.readAllLines(SOURCE);
        for (int i = 0; i < lines.size(); i++) {
            Matcher m = Pattern.compile("^( +)[\\w\\[\\] ]+\\(.*\\) \\{$").matcher(lines.get(i));
            boolean isMethod = m.find() && (m.group(1).length() == 4 || m.group(1).length() == 8)
                && !lines.get(i).trim().matches("(if|for|switch|while)\\b.*");
            if (isMethod) {
                int end = i;
                while (end < lines.size() && !lines.get(end).equals(m.group(1) + "}")) {
                    end++;
                }
                check(end - i < 60, "too long, from line " + (i + 1) + " to " + (end + 1));
            }
        }
    }

    /** A name that several classes have stands for all of their methods, so that no depth is told too small. */
    private static void callsGoNotTooDeep() throws IOException {
        String s = sourceWithoutComments();
        List<String> names = new ArrayList<>();
        List<String> bodies = new ArrayList<>();
        Matcher m = Pattern.compile("\n( {4}| {8})(?:public |private |static |final )*\\w+(?:\\[\\])? (\\w+)\\([^)]*\\) \\{(.*?)\n\\1\\}",
            Pattern.DOTALL).matcher(s);
        while (m.find()) {
            names.add(m.group(2));
            bodies.add(m.group(3));
        }
        check(names.size() > 60, "methods seen: " + names.size());
        for (int i = 0; i < names.size(); i++) {
            int depth = depthOf(i, names, bodies, 0);
            check(depth <= 8, names.get(i) + " goes " + depth + " calls deep");
        }
    }

    private static int depthOf(int at, List<String> names, List<String> bodies, int open) {
        if (open > 40) {
            return open;
        }
        int deepest = 0;
        Matcher m = Pattern.compile("\\b(\\w+)\\(").matcher(bodies.get(at));
        while (m.find()) {
            for (int i = 0; i < names.size(); i++) {
                if (names.get(i).equals(m.group(1))) {
                    deepest = Math.max(deepest, depthOf(i, names, bodies, open + 1));
                }
            }
        }
        return deepest + 1;
    }
}
