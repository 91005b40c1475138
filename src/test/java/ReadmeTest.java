import java.io.File;
import java.lang.reflect.Method;
import java.nio.file.Files;
import java.nio.file.Path;
import java.util.Map;
import java.util.TreeMap;
import java.util.regex.Matcher;
import java.util.regex.Pattern;

/** README.md shows calls with their answers, so they are called here; and it leaves out no act and no test. */
final class ReadmeTest {
    private static final Pattern MADE = Pattern.compile("ShelfNights x = new ShelfNights\\(\\);");
    private static final Pattern CALL = Pattern.compile("x\\.(\\w+)\\((.*)\\); +// (-?\\d+)(?:: .*)?");

    public static void main(String[] args) throws Exception {
        String readme = Files.readString(Path.of("README.md"));
        Map<String, Method> acts = acts();
        for (String act : acts.keySet()) {
            Due.is("README.md names " + act, readme.contains("`" + act + "`") ? 1 : 0, 1);
        }
        for (File test : new File("src/test/java").listFiles((folder, name) -> name.endsWith("Test.java"))) {
            String name = test.getName().replace(".java", "");
            Due.is("README.md names " + name, Pattern.compile("\\b" + name + "\\b").matcher(readme).find() ? 1 : 0, 1);
        }
        Matcher block = Pattern.compile("(?s)```java\n(.*?)```").matcher(readme);
        int blocks = 0;
        while (block.find()) {
            blocks++;
            runBlock(block.group(1), acts);
        }
        Due.is("blocks of calls", blocks, 4);
        Due.end();
    }

    private static Map<String, Method> acts() {
        Map<String, Method> acts = new TreeMap<>();
        for (Method method : FaceTest.publicMethods()) {
            acts.put(method.getName(), method);
        }
        return acts;
    }

    private static void runBlock(String block, Map<String, Method> acts) throws Exception {
        ShelfNights x = null;
        for (String line : block.split("\n")) {
            Matcher call = CALL.matcher(line);
            if (MADE.matcher(line).matches()) {
                x = new ShelfNights();
            } else if (call.matches() && x != null) {
                int got = (int) acts.get(call.group(1)).invoke(x, arguments(acts.get(call.group(1)), call.group(2)));
                Due.is("README.md: " + line, got, Integer.parseInt(call.group(3)));
            } else {
                Due.is("README.md, a line that is no call: " + line, 0, 1);
            }
        }
    }

    private static Object[] arguments(Method act, String list) {
        Class<?>[] types = act.getParameterTypes();
        String[] shown = list.isEmpty() ? new String[0] : list.split(", ");
        Due.is("arguments of " + act.getName() + "(" + list + ")", shown.length, types.length);
        Object[] all = new Object[types.length];
        for (int i = 0; i < types.length; i++) {
            long v = worth(shown[i]);
            all[i] = types[i] == long.class ? (Object) v : (Object) (int) v;
        }
        return all;
    }

    /** As README.md writes arguments: numbers, signs like 'o', signs that are shifted, joined by | or by +. */
    private static long worth(String shown) {
        long worth = 0;
        for (String part : shown.split(" [|+] ")) {
            String[] shifted = part.split(" << ");
            long v = shifted[0].startsWith("'") ? shifted[0].charAt(1) : Long.parseLong(shifted[0]);
            worth += shifted.length > 1 ? v << Integer.parseInt(shifted[1]) : v;
        }
        return worth;
    }
}
