import java.io.IOException;
import java.nio.file.Files;
import java.nio.file.Path;
import java.util.List;
import java.util.regex.Pattern;

/** The rules of LANGUAGE.md that a look at the program's text can check. */
public final class LanguageTest {
    private static final Path SOURCE = Path.of("src/main/java/TourHouse.java");
    private static final String[] RULED_OUT = {
        "->", "::", "\\bfinally\\b", "\\bsynchronized\\b", "\\bassert\\b", "\\bthread\\b", "\\bpackage\\b",
        "Exact\\(", "\\bnative\\b", "\\bstatic\\s*\\{", "\\bSystem\\.(?!arraycopy)", "\\btoString\\b",
        "\\bhashCode\\b", "\\bequals\\b", "\\bimport (?!java\\.util\\.(Arrays|NoSuchElementException);)",
    };

    public static void main(String[] args) throws IOException {
        String text = Files.readString(SOURCE);
        String code = text.replaceAll("(?s)/\\*.*?\\*/", "").replaceAll("//.*", "").replaceAll("\"[^\"]*\"", "\"\"");
        for (String pattern : RULED_OUT) {
            Checks.due("found " + pattern, Pattern.compile(pattern).matcher(code).find(), false);
        }
        checkLengthOfMethods(List.of(text.split("\n")));
        Checks.finish();
    }

    private static void checkLengthOfMethods(List<String> lines) {
        Pattern head = Pattern.compile("^( {4}| {8})[a-zA-Z].*\\) ?(throws .*)?\\{$");
        for (int i = 0; i < lines.size(); i++) {
            if (head.matcher(lines.get(i)).find()) {
                String end = lines.get(i).startsWith("        ") ? "        }" : "    }";
                int length = lines.subList(i, lines.size()).indexOf(end) + 1;
                Checks.due("too long: " + lines.get(i).trim(), length > 60, false);
            }
        }
    }
}
