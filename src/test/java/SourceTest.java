import java.io.IOException;
import java.nio.file.Files;
import java.nio.file.Path;
import java.util.List;
import java.util.regex.Matcher;
import java.util.regex.Pattern;

/** What of LANGUAGE.md can be read off the text of the class. */
public final class SourceTest {
    private static final Check CHECK = new Check("SourceTest");
    private static final String[] RULED_OUT = {
        "throw", "try {", "catch", "finally", "synchronized", "assert", "->", "::", "@", "Object", "package", "Exception",
        "Exact", "MAX_VALUE", "MIN_VALUE", "static {", "hashCode", "toString", "protected", "\"",
    };

    public static void main(String[] args) throws IOException {
        List<String> lines = Files.readAllLines(Path.of("src/main/java/SaltPool.java"));
        CHECK.section("the text");
        String code = withoutComments(String.join("\n", lines));
        for (String word : RULED_OUT) {
            CHECK.holds("no " + word, !code.contains(word));
        }
        CHECK.holds("one import", code.split("import ", -1).length == 2 && code.contains("import java.util.Arrays;"));
        CHECK.holds("ASCII alone", code.chars().allMatch(sign -> sign < 127));
        library(code);
        objects(code);
        methods(code);
        CHECK.close();
    }

    private static String withoutComments(String text) {
        return text.replaceAll("(?s)/\\*.*?\\*/", "").replaceAll("//[^\n]*", "");
    }

    private static void library(String code) {
        CHECK.section("rule 4");
        Matcher call = Pattern.compile("\\b(Arrays|Math|Integer|Long|System|String|StringBuilder|List)\\b(\\.\\w+)?").matcher(code);
        while (call.find()) {
            CHECK.holds(call.group() + " is of the library",
                    List.of("Arrays", "Arrays.fill", "Math.max", "Math.min", "Integer.bitCount", "System.arraycopy")
                            .contains(call.group()));
        }
    }

    /** The room is one for all calls of a run, so objects are made by constructors and fields alone. */
    private static void objects(String code) {
        CHECK.section("objects");
        boolean inConstructor = false;
        for (String line : code.split("\n")) {
            inConstructor |= line.contains("public SaltPool() {");
            if (line.contains(" new ")) {
                CHECK.holds("made in a constructor or a field: " + line.trim(),
                        inConstructor || line.matches("\\s+(private )?final \\S+ \\w+ = new .*;"));
            }
            inConstructor &= !line.equals("    }");
        }
    }

    private static void methods(String code) {
        CHECK.section("rule 11");
        String[] lines = code.split("\n");
        int first = -1;
        String end = "";
        for (int k = 0; k < lines.length; k++) {
            if (lines[k].matches(" +[\\w\\[\\] ]+\\([^;]*\\{") && !lines[k].matches(" +(if|for|while|switch|else)\\b.*")) {
                first = k;
                end = lines[k].replaceFirst("\\S.*", "}");
            }
            if (first >= 0 && lines[k].equals(end)) {
                CHECK.holds("at most sixty lines: " + lines[first].trim(), k - first < 60);
                first = -1;
            }
        }
    }
}
