import java.io.IOException;
import java.nio.file.Files;
import java.nio.file.Path;
import java.util.List;
import java.util.regex.Matcher;
import java.util.regex.Pattern;

/** What ../shared/LANGUAGE.md rules out and a look at the source can tell. */
public final class LanguageTest {
    private static final String SOURCE = "src/main/java/BusBlocks.java";
    private static final String[] RULED_OUT = {
        "->", "::", "\\bfinally\\b", "\\bsynchronized\\b", "\\bassert\\b", "\\bcatch\\b", "\\bDouble\\.", "Exact\\b",
        "\\bSystem\\.(?!arraycopy\\b)", "\\bRandom\\b", "\\bThread\\b", "\\bgetMessage\\b", "\\bequals\\b", "\\bhashCode\\b",
        "^\\s*static\\s*\\{", "\\bextends \\w*Exception\\b", "^package\\b",
        "\\bMath\\.(?!max\\b|min\\b|abs\\b)",
        "\\bArrays\\.(?!fill\\b)", "[^\\x09\\x20-\\x7E]"};
    private static final String THROWN = "IndexOutOfBoundsException|IllegalArgumentException|IllegalStateException";

    public static void main(String[] args) throws IOException {
        List<String> lines = Files.readAllLines(Path.of(SOURCE));
        int number = 0;
        int methodLines = 0;
        for (String line : lines) {
            number++;
            String code = line.strip().startsWith("*") || line.strip().startsWith("/") ? "" : line;
            for (String pattern : RULED_OUT) {
                Check.due("line " + number + " has " + pattern, Pattern.compile(pattern).matcher(code).find() ? 1 : 0, 0);
            }
            if (code.startsWith("import ")) {
                Check.dueText("line " + number, code, "import java.util.Arrays;");
            }
            Matcher thrown = Pattern.compile("throw (.*)").matcher(code);
            if (thrown.find()) {
                Check.due("line " + number, thrown.group(1).matches("new (" + THROWN + ")\\(\"[^\"]*\"\\);") ? 1 : 0, 1);
            }
            methodLines = code.isBlank() ? 0 : methodLines + 1;
            Check.due("line " + number + " ends a piece of more than sixty lines", methodLines > 60 ? 1 : 0, 0);
        }
        Check.finish();
    }
}
