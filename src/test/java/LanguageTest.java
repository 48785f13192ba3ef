import java.nio.file.Files;
import java.nio.file.Path;
import java.util.ArrayList;
import java.util.List;
import java.util.regex.Matcher;
import java.util.regex.Pattern;

/** What of LANGUAGE.md can be seen in the text of the program; run from the project's folder. */
public final class LanguageTest {
    private static final Check CHECK = new Check();
    private static final String[] FORBIDDEN = {
        "\\bthrow\\b", "\\bthrows\\b", "\\btry\\b", "\\bcatch\\b", "\\bsynchronized\\b", "\\bassert\\b", "->", "::",
        "\\bpackage\\b", "Exact\\b", "\\bfloat\\b", "\\bdouble\\b", "\\bstatic\\s*\\{", "\\bThread\\b",
        "\\bSystem\\.(?!arraycopy\\b)", "\\bRandom\\b", "\\bhashCode\\b", "\\btoString\\b", "@"};

    private static final List<String> LIBRARY = List.of(
        "Integer.bitCount", "Math.min", "Math.max", "Math.abs", "Arrays.fill", "System.arraycopy");

    public static void main(String[] args) throws Exception {
        String source = Files.readString(Path.of("src/main/java/ReadFromRight.java"));
        for (char sign : source.toCharArray()) {
            CHECK.isTrue("signs are plain", sign == '\n' || sign >= 32 && sign < 127);
        }
        String code = source.replaceAll("(?s)/\\*.*?\\*/", "").replaceAll("//[^\n]*", "");
        for (String pattern : FORBIDDEN) {
            CHECK.isTrue("there is no " + pattern, !Pattern.compile(pattern).matcher(code).find());
        }
        Matcher imports = Pattern.compile("import ([^;]*);").matcher(code);
        while (imports.find()) {
            CHECK.isTrue("import of " + imports.group(1), imports.group(1).equals("java.util.Arrays"));
        }
        Matcher library = Pattern.compile("\\b(?:Integer|Long|Math|Arrays|String|System)\\.\\w+").matcher(code);
        while (library.find()) {
            CHECK.isTrue("library: " + library.group(), LIBRARY.contains(library.group()));
        }
        Matcher statics = Pattern.compile("\\bstatic (?!final )(?!class)[^(;=]*[;=]").matcher(code);
        CHECK.isTrue("static fields are final", !statics.find());
        Matcher classes = Pattern.compile("\\bclass \\w+").matcher(code);
        int many = 0;
        while (classes.find()) {
            many++;
        }
        CHECK.isTrue("at most twelve classes: " + many, many <= 12);
        lookAtMethods(code);
        CHECK.end();
    }

    private static void lookAtMethods(String code) {
        Pattern head = Pattern.compile("^ +(?:public |private |static |final )*[\\w\\[\\]]+ ?\\w*\\(([^)]*)\\) \\{$");
        Pattern other = Pattern.compile("^ *(?:\\} )?(?:if|else|for|while|switch|do|return)\\b.*");
        List<String> lines = new ArrayList<>(List.of(code.split("\n")));
        int seen = 0;
        for (int i = 0; i < lines.size(); i++) {
            Matcher method = head.matcher(lines.get(i));
            if (method.matches() && !other.matcher(lines.get(i)).matches()) {
                seen++;
                int length = lengthFrom(lines, i);
                CHECK.isTrue("at most sixty lines, not " + length + ": " + lines.get(i), length <= 60);
                CHECK.isTrue("at most seven parameters: " + lines.get(i), method.group(1).split(",").length <= 7);
            }
        }
        CHECK.isTrue("methods are seen: " + seen, seen > 60);
    }

    private static int lengthFrom(List<String> lines, int start) {
        String indent = lines.get(start).replaceAll("\\S.*", "");
        int end = start;
        while (end < lines.size() - 1 && !lines.get(end).equals(indent + "}")) {
            end++;
        }
        return end - start + 1;
    }
}
