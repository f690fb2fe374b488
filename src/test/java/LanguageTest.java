import java.io.IOException;
import java.lang.reflect.Field;
import java.lang.reflect.Method;
import java.lang.reflect.Modifier;
import java.nio.file.Files;
import java.nio.file.Path;
import java.util.ArrayList;
import java.util.Arrays;
import java.util.List;
import java.util.Set;
import java.util.TreeSet;
import java.util.regex.Matcher;
import java.util.regex.Pattern;

/** The rules of LANGUAGE.md that a program can look at: the face, forbidden words, sizes. Runs in the project's folder. */
public final class LanguageTest {
    private static final String FACE = "work/5 author/4 pages/3 join/2 part/1 about/2 name/3 page/2 list/1 note/1 cut/1 move/2 call/3 drop/1 "
        + "told/2 at/2 piece/3 count/1 feed/2 read/0 fault/0 style/1 keep/1 back/1 beside/2 together/2 rank/0 least/1";
    private static int wrong = 0;

    private static void check(boolean good, String said) {
        if (!good) {
            wrong++;
            System.out.println("language: " + said);
        }
    }

    public static void main(String[] args) throws IOException {
        face();
        nested();
        String code = withoutCommentsAndTexts(Files.readString(Path.of("src/main/java/CitedWorks.java")));
        words(code);
        methods(code);
        System.out.println("language: " + wrong + " wrong");
        if (wrong != 0) System.exit(1);
    }

    private static void face() {
        Set<String> due = new TreeSet<>(Arrays.asList(FACE.split(" ")));
        Set<String> names = new TreeSet<>();
        Set<String> there = new TreeSet<>();
        for (String name : due) names.add(name.substring(0, name.indexOf('/')));
        for (Method m : CitedWorks.class.getDeclaredMethods()) {
            if (Modifier.isPublic(m.getModifiers())) {
                there.add(m.getName() + "/" + m.getParameterCount());
                check(m.getReturnType() == int.class && !Modifier.isStatic(m.getModifiers()), m + " answers no int");
            } else {
                check(Modifier.isPrivate(m.getModifiers()), m + " is not private");
                check(!names.contains(m.getName()), m + " bears the name of a public one");
            }
        }
        check(there.equals(due), "the public methods are " + there);
        Set<String> constants = new TreeSet<>();
        for (Field f : CitedWorks.class.getDeclaredFields()) {
            if (Modifier.isPublic(f.getModifiers())) constants.add(f.getName());
            else check(Modifier.isPrivate(f.getModifiers()), f + " is not private");
            check(!Modifier.isStatic(f.getModifiers()) || Modifier.isFinal(f.getModifiers()), f + " is static and not final");
        }
        check(constants.equals(Set.of("NONE", "UNKNOWN", "OUTSIDE", "NOT", "FULL")), "the public constants are " + constants);
        check(Modifier.isFinal(CitedWorks.class.getModifiers()), "the class is not final");
    }

    private static void nested() {
        Class<?>[] inside = CitedWorks.class.getDeclaredClasses();
        check(inside.length < 12, "too many classes: " + inside.length);
        List<String> names = new ArrayList<>();
        for (String name : FACE.split(" ")) names.add(name.substring(0, name.indexOf('/')));
        for (Class<?> c : inside) {
            check(Modifier.isStatic(c.getModifiers()) && !Modifier.isPublic(c.getModifiers()), c + " is not static, or public");
            long fields = Arrays.stream(c.getDeclaredFields()).filter(f -> !Modifier.isStatic(f.getModifiers())).count();
            check(fields <= 20, c + " has " + fields + " fields");
            for (Method m : c.getDeclaredMethods()) {
                check(!names.contains(m.getName()), m + " bears the name of a public one");
                check(m.getParameterCount() <= 7, m + " has too many parameters");
            }
        }
    }

    private static void words(String code) {
        for (String word : List.of("throw", "throws", "try", "catch", "synchronized", "assert", "protected", "package", "Exact", "hashCode", "Object", "System.out", "::", "->", "instanceof Integer")) {
            Pattern whole = Pattern.compile(word.matches("[a-zA-Z]+") ? "\\b" + word + "\\b" : Pattern.quote(word));
            check(!whole.matcher(code).find(), "the word " + word);
        }
        Matcher imports = Pattern.compile("import ([a-zA-Z.]+);").matcher(code);
        while (imports.find()) check(Set.of("java.util.Arrays", "java.util.ArrayList", "java.util.List").contains(imports.group(1)), "import " + imports.group(1));
        check(!Pattern.compile("\"\\s*\\+|\\+\\s*\"").matcher(code).find(), "texts joined by +");
    }

    private static void methods(String code) {
        int start = -1;
        String[] lines = code.split("\n");
        for (int k = 0; k < lines.length; k++) {
            if (lines[k].matches("( {4}| {8})[a-zA-Z].*\\) \\{")) start = k;
            if (lines[k].matches("( {4}| {8})\\}") && start >= 0) {
                check(k - start < 60, "a method of more than 60 lines at line " + (start + 1));
                start = -1;
            }
        }
    }

    private static String withoutCommentsAndTexts(String source) {
        String bare = source.replaceAll("\"[^\"\n]*\"", "\"\"").replaceAll("//[^\n]*", "");
        Matcher comments = Pattern.compile("/\\*.*?\\*/", Pattern.DOTALL).matcher(bare);
        return comments.replaceAll(m -> m.group().replaceAll("[^\n]", ""));
    }
}
