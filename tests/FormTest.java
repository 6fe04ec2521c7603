import java.io.IOException;
import java.nio.file.Files;
import java.nio.file.Path;
import java.util.List;
import java.util.regex.Pattern;

/**
 * Some of the rules of ../shared/LANGUAGE.md that show in the program's text. (The document names no exception, so that
 * none is thrown or caught.) Run where src lies.
 */
public final class FormTest {
    private static final String[] RULED_OUT = {"import", "package", "->", "::", "try", "catch", "finally", "throw",
        "synchronized", "assert", "hashCode", "System\\.(?!arraycopy)", "static \\{"};
    private static final int MOST_LINES = 60;
    private static final int MOST_CLASSES = 12;
    private static final int MOST_SIGNS = 120;

    public static void main(String[] args) throws IOException {
        List<String> lines = Files.readAllLines(Path.of("src/main/java/AbilityChecker.java"));
        int classes = 0;
        int begun = 0;
        for (int k = 0; k < lines.size(); k++) {
            String line = lines.get(k);
            String code = line.replaceAll("//.*|^ */?\\*.*", "");
            for (String word : RULED_OUT) {
                boolean isWord = word.matches("\\w+");
                boolean found = Pattern.compile(isWord ? "\\b" + word + "\\b" : word).matcher(code).find();
                Due.due("line " + (k + 1) + " has " + word, found ? 1 : 0, 0);
            }
            Due.due("line " + (k + 1) + " is too long", line.length() > MOST_SIGNS ? 1 : 0, 0);
            classes += code.matches(".*\\bclass \\w+ \\{") ? 1 : 0;
            if (code.matches("( {4}| {8})\\w.*\\) \\{")) {
                begun = k;
            }
            if (code.matches(" {4}\\}| {8}\\}")) {
                Due.due("the method that ends in line " + (k + 1) + " is too long", k - begun > MOST_LINES
                    && begun > 0 && lines.get(k).startsWith("        }") ? 1 : 0, 0);
            }
        }
        Due.due("more classes than " + MOST_CLASSES, classes > MOST_CLASSES ? classes : 0, 0);
        Due.end();
    }
}
