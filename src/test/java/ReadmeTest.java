import java.io.IOException;
import java.lang.reflect.Method;
import java.nio.file.Files;
import java.nio.file.Path;
import java.util.Set;
import java.util.TreeSet;
import java.util.regex.Matcher;
import java.util.regex.Pattern;

/** The rows of calls in README.md answer what stands behind them. Runs in the project's folder. */
public final class ReadmeTest extends Checks {
    private static final Pattern BLOCK = Pattern.compile("```java\n(CitedWorks x = new CitedWorks\\(\\);\n.*?)```", Pattern.DOTALL);
    private static final Pattern ROW = Pattern.compile("x\\.(\\w+)\\((.*)\\); +// (-?\\w+)\\b.*");

    public static void main(String[] args) throws ReflectiveOperationException, IOException {
        Set<String> used = new TreeSet<>();
        Matcher blocks = BLOCK.matcher(Files.readString(Path.of("README.md")));
        while (blocks.find()) {
            CitedWorks x = new CitedWorks();
            for (String line : blocks.group(1).split("\n")) {
                Matcher row = ROW.matcher(line);
                boolean isRow = row.matches();
                says("README.md: " + line);
                due("a row with an answer", isRow || line.equals("CitedWorks x = new CitedWorks();") ? 1 : 0, 1);
                if (!isRow) continue;
                used.add(row.group(1));
                due("call", answer(x, row.group(1), row.group(2)), number(row.group(3)).intValue());
            }
        }
        says("README.md");
        due("enough calls are used", used.size() > 20 ? 1 : 0, 1);
        end("readme");
    }

    private static int answer(CitedWorks x, String name, String written) throws ReflectiveOperationException {
        String[] words = written.isEmpty() ? new String[0] : written.split(", ");
        for (Method m : CitedWorks.class.getMethods()) {
            if (!m.getName().equals(name) || m.getParameterCount() != words.length) continue;
            Object[] arguments = new Object[words.length];
            for (int k = 0; k < words.length; k++) {
                Long number = number(words[k]);
                arguments[k] = m.getParameterTypes()[k] == int.class ? (Object) number.intValue() : number;
            }
            return (Integer) m.invoke(x, arguments);
        }
        throw new IllegalArgumentException("no method " + name + " with " + words.length + " parameters");
    }

    private static Long number(String word) throws ReflectiveOperationException {
        String bare = word.replace("CitedWorks.", "");
        if (bare.matches("[A-Z]+")) return (long) CitedWorks.class.getField(bare).getInt(null);
        return Long.decode(bare.replaceAll("L$", ""));
    }
}
