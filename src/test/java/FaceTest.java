import java.lang.reflect.Constructor;
import java.lang.reflect.Field;
import java.lang.reflect.Method;
import java.lang.reflect.Modifier;
import java.nio.file.Files;
import java.nio.file.Path;
import java.util.ArrayList;
import java.util.List;
import java.util.TreeSet;
import java.util.regex.Matcher;
import java.util.regex.Pattern;

/** The compiled class has the face that the document shows, and its members are as LANGUAGE.md asks. */
final class FaceTest {
    public static void main(String[] args) throws Exception {
        Due.begin("the public face");
        Due.is("the lines", faceOfClass().toString(), faceOfDocument().toString());
        Due.is("the class", Modifier.toString(ShelfNights.class.getModifiers()), "public final");
        constructors();
        Due.begin("no other member shows");
        othersArePrivate();
        Due.begin("the classes inside");
        for (Class<?> inside : ShelfNights.class.getDeclaredClasses()) {
            int modifiers = inside.getModifiers();
            Due.is(inside + " is static", Modifier.isStatic(modifiers) ? 1 : 0, 1);
            Due.is(inside + " shows", Modifier.isPublic(modifiers) || Modifier.isProtected(modifiers) ? 1 : 0, 0);
            fields(inside);
        }
        fields(ShelfNights.class);
        Due.end();
    }

    static List<Method> publicMethods() {
        List<Method> all = new ArrayList<>();
        for (Method method : ShelfNights.class.getDeclaredMethods()) {
            if (Modifier.isPublic(method.getModifiers())) {
                all.add(method);
            }
        }
        return all;
    }

    private static TreeSet<String> faceOfDocument() throws Exception {
        String document = Files.readString(Path.of("../shared/DOC.md"));
        String face = document.split("## The public face")[1].split("## Terms")[0];
        TreeSet<String> lines = new TreeSet<>();
        Matcher line = Pattern.compile("public (\\w+ \\w+)\\((.*)\\);").matcher(face);
        while (line.find()) {
            lines.add(line.group(1) + "(" + line.group(2).replaceAll("(\\w+) \\w+", "$1") + ")");
        }
        return lines;
    }

    private static TreeSet<String> faceOfClass() {
        TreeSet<String> lines = new TreeSet<>();
        for (Method method : publicMethods()) {
            List<String> types = new ArrayList<>();
            for (Class<?> type : method.getParameterTypes()) {
                types.add(type.getName());
            }
            String line = method.getReturnType().getName() + " " + method.getName();
            lines.add(line + "(" + String.join(", ", types) + ")");
            Due.is(line + " is of an object", Modifier.isStatic(method.getModifiers()) ? 1 : 0, 0);
        }
        return lines;
    }

    private static void constructors() {
        Constructor<?>[] all = ShelfNights.class.getDeclaredConstructors();
        Due.is("constructors", all.length, 1);
        Due.is("the constructor", all[0].toString(), "public ShelfNights()");
    }

    private static void othersArePrivate() {
        for (Method method : ShelfNights.class.getDeclaredMethods()) {
            int modifiers = method.getModifiers();
            Due.is(method.toString(), Modifier.isPublic(modifiers) || Modifier.isPrivate(modifiers) ? 1 : 0, 1);
        }
        for (Field field : ShelfNights.class.getDeclaredFields()) {
            Due.is(field.toString(), Modifier.isPrivate(field.getModifiers()) ? 1 : 0, 1);
        }
    }

    /** Static ones are final, and beside these a class has some twenty. */
    private static void fields(Class<?> owner) {
        int own = 0;
        for (Field field : owner.getDeclaredFields()) {
            if (Modifier.isStatic(field.getModifiers())) {
                Due.is(field + " is final", Modifier.isFinal(field.getModifiers()) ? 1 : 0, 1);
            } else {
                own++;
            }
        }
        Due.is("fields of " + owner + " beyond twenty", Math.max(0, own - 20), 0);
    }
}
