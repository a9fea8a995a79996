import java.io.IOException;
import java.nio.file.Files;
import java.nio.file.Path;
import java.util.regex.Matcher;
import java.util.regex.Pattern;

/** What of ../shared/LANGUAGE.md can be read off the text of the class. */
final class LanguageTest {
    private static final String[] FORBIDDEN = {
        "->", "::", "\\btry\\b", "\\bcatch\\b", "\\bfinally\\b", "\\bassert\\b", "\\bsynchronized\\b", "\\bvar\\b",
        "\\bprotected\\b", "\\bpackage\\b", "\\bextends\\b", "\\bvolatile\\b", "\\bdouble\\b", "\\bfloat\\b",
        "static\\s*\\{", "Exact\\b", "\\bequals\\b", "\\bhashCode\\b", "\\btoString\\b", "while\\s*\\(\\s*true"
    };

    public static void main(String[] args) throws IOException {
        Check check = new Check();
        String source = Files.readString(Path.of("src/main/java/SealedWire.java"));
        String code = source.replaceAll("(?s)/\\*.*?\\*/", "").replaceAll("//[^\n]*", "");
        for (String word : FORBIDDEN) {
            check.isTrue("no " + word, !Pattern.compile(word).matcher(code).find());
        }
        Matcher imports = Pattern.compile("import ([^;]*);").matcher(code);
        while (imports.find()) {
            String name = imports.group(1);
            check.isTrue("import " + name,
                    name.equals("java.util.Arrays") || name.equals("java.util.NoSuchElementException"));
        }
        Matcher library = Pattern.compile("\\b(System|Arrays|Math|Integer|Long)\\.(\\w+)").matcher(code);
        while (library.find()) {
            String name = library.group();
            check.isTrue("library: " + name, name.equals("System.arraycopy") || name.equals("Arrays.fill")
                    || name.equals("Math.min") || name.equals("util.Arrays"));
        }
        Matcher classes = Pattern.compile("\\bclass \\w+").matcher(code);
        int count = 0;
        while (classes.find()) {
            count++;
        }
        check.isTrue("at most twelve classes", count <= 12);
        check.isTrue("signs 1 to 127 alone", source.chars().allMatch(sign -> sign > 0 && sign < 128));
        check.close();
    }
}
