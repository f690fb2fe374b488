import java.io.IOException;
import java.lang.reflect.Constructor;
import java.lang.reflect.Field;
import java.lang.reflect.Method;
import java.lang.reflect.Modifier;
import java.nio.file.Files;
import java.nio.file.Path;
import java.util.ArrayList;
import java.util.Arrays;
import java.util.HashMap;
import java.util.List;
import java.util.Map;
import java.util.Set;
import java.util.TreeSet;
import java.util.regex.Matcher;
import java.util.regex.Pattern;

/** The document's face, and the rules of LANGUAGE.md that a program can look at (CodeScan has most). Runs in the project's folder. */
public final class LanguageTest {
    /** The document's methods, each with its parameters (i: int, l: long); all answer an int. */
    private static final String FACE = "work/iiiii author/iiii pages/iii join/ii part/i about/ii name/iii page/ii list/i note/i cut/i move/ii call/iii drop/i "
        + "told/ii at/ii piece/iii count/i feed/il read/ fault/ style/i keep/i back/i beside/ii together/ii rank/ least/i";
    private static final Map<String, Integer> CONSTANTS = Map.of("NONE", -1, "UNKNOWN", -1001, "OUTSIDE", -1002, "NOT", -1003, "FULL", -1004);
    private static final Path SOURCE = Path.of("src/main/java/CitedWorks.java");
    private static int wrong = 0;

    private static void check(boolean good, String said) {
        if (!good) {
            wrong++;
            System.out.println("language: " + said);
        }
    }

    public static void main(String[] args) throws IOException, IllegalAccessException {
        face();
        nested();
        CodeScan scan = CodeScan.of(SOURCE);
        for (String fault : scan.faults) check(false, fault);
        check(scan.library.contains("System.arraycopy"), "the library's calls were not seen: " + scan.library);
        imports(Files.readString(SOURCE));
        System.out.println("language: " + wrong + " wrong");
        if (wrong != 0) System.exit(1);
    }

    private static void face() throws IllegalAccessException {
        Set<String> due = new TreeSet<>(Arrays.asList(FACE.split(" ")));
        Set<String> names = new TreeSet<>();
        Set<String> there = new TreeSet<>();
        for (String name : due) names.add(name.substring(0, name.indexOf('/')));
        for (Method m : CitedWorks.class.getDeclaredMethods()) {
            if (Modifier.isPublic(m.getModifiers())) {
                there.add(m.getName() + "/" + parameters(m));
                check(m.getReturnType() == int.class && !Modifier.isStatic(m.getModifiers()), m + " answers no int");
            } else {
                check(Modifier.isPrivate(m.getModifiers()), m + " is not private");
                check(!names.contains(m.getName()), m + " bears the name of a public one");
            }
        }
        check(there.equals(due), "the public methods are " + there);
        Map<String, Integer> constants = new HashMap<>();
        for (Field f : CitedWorks.class.getDeclaredFields()) {
            boolean fixed = Modifier.isStatic(f.getModifiers()) && Modifier.isFinal(f.getModifiers());
            check(fixed || !Modifier.isStatic(f.getModifiers()), f + " is static and not final");
            if (Modifier.isPublic(f.getModifiers()) && fixed) constants.put(f.getName(), f.getInt(null));
            else check(Modifier.isPrivate(f.getModifiers()), f + " is not private");
        }
        check(constants.equals(CONSTANTS), "the public constants are " + constants);
        int modifiers = CitedWorks.class.getModifiers();
        check(Modifier.isPublic(modifiers) && Modifier.isFinal(modifiers), "the class is not public and final");
        Constructor<?>[] constructors = CitedWorks.class.getDeclaredConstructors();
        check(constructors.length == 1 && Modifier.isPublic(constructors[0].getModifiers()) && constructors[0].getParameterCount() == 0, "the constructor");
    }

    private static String parameters(Method m) {
        StringBuilder signs = new StringBuilder();
        for (Class<?> type : m.getParameterTypes()) signs.append(type == int.class ? 'i' : type == long.class ? 'l' : '?');
        return signs.toString();
    }

    private static void nested() {
        Class<?>[] inside = CitedWorks.class.getDeclaredClasses();
        List<String> names = new ArrayList<>();
        for (String name : FACE.split(" ")) names.add(name.substring(0, name.indexOf('/')));
        for (Class<?> c : inside) {
            check(Modifier.isStatic(c.getModifiers()) && !Modifier.isPublic(c.getModifiers()), c + " is not static, or public");
            for (Method m : c.getDeclaredMethods()) {
                check(!names.contains(m.getName()), m + " bears the name of a public one");
            }
        }
    }

    private static void imports(String code) {
        check(!Pattern.compile("^package ", Pattern.MULTILINE).matcher(code).find(), "a package line");
        Matcher imports = Pattern.compile("^import (.+);", Pattern.MULTILINE).matcher(code);
        while (imports.find()) check(Set.of("java.util.Arrays", "java.util.ArrayList", "java.util.List").contains(imports.group(1)), "import " + imports.group(1));
    }
}
