import java.io.IOException;
import java.nio.file.Files;
import java.nio.file.Path;
import java.util.regex.Matcher;
import java.util.regex.Pattern;

/** What ../shared/LANGUAGE.md forbids and can be found in the source's own words. */
final class LanguageTest {
    private static final String[] FORBIDDEN = {"\\bthrow\\b", "\\bthrows\\b", "\\btry\\b", "\\bcatch\\b", "\\bassert\\b",
        "\\bsynchronized\\b", "\\bimport\\b", "\\bpackage\\b", "\\bprotected\\b", "->", "::", "@", "Exact\\b",
        "\\bString\\b", "\\bequals\\b", "\\bhashCode\\b", "\\btoString\\b", "\\bSystem\\.(?!arraycopy)", "\\bNaN\\b",
        "\\bThread\\b", "\\bjava\\.", "\\bObject\\b", "\\bstatic\\s*\\{"};

    public static void main(String[] args) throws IOException {
        String source = Files.readString(Path.of("src/main/java/ShelfNights.java"));
        for (int i = 0; i < source.length(); i++) {
            if (source.charAt(i) > 126) {
                Due.is("a sign beyond ASCII at " + i, source.charAt(i), ' ');
            }
        }
        String code = source.replaceAll("(?s)/\\*.*?\\*/", "").replaceAll("//[^\n]*", "");
        for (String word : FORBIDDEN) {
            Due.is("found of " + word, found(word, code), 0);
        }
        Due.is("public ones: the class, its constructor, 37 methods", found("\\bpublic\\b", code), 39);
        Due.is("classes beyond twelve", Math.max(0, found("\\bclass\\b", code) - 12), 0);
        Due.is("long methods", longMethods(code), 0);
        namesOfPublicMethods(code);
        Due.end();
    }

    private static int found(String regex, String code) {
        Matcher m = Pattern.compile(regex).matcher(code);
        int n = 0;
        while (m.find()) {
            n++;
        }
        return n;
    }

    /** Methods end where a brace stands as far in as their first line. */
    private static int longMethods(String code) {
        int many = 0;
        Matcher m = Pattern.compile("(?sm)^( {4}| {8})[^\n ][^\n;]*\\)? \\{\n.*?^\\1\\}").matcher(code);
        int at = 0;
        while (m.find(at)) {
            boolean isClass = m.group().substring(0, m.group().indexOf('\n')).contains("class ");
            if (!isClass && m.group().split("\n").length > 60) {
                many++;
                System.out.println("long: " + m.group().split("\n")[0]);
            }
            at = isClass ? m.start() + m.group().indexOf('\n') : m.end();
        }
        return many;
    }

    private static void namesOfPublicMethods(String code) {
        Matcher m = Pattern.compile("public int (\\w+)\\(").matcher(code);
        int methods = 0;
        while (m.find()) {
            methods++;
            Due.is("methods by the name of " + m.group(1),
                found("\\b(?:int|boolean|void|Kind|Text) " + m.group(1) + "\\(", code), 1);
        }
        Due.is("public methods", methods, 37);
    }
}
