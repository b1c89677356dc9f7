import java.io.IOException;
import java.nio.file.Files;
import java.nio.file.Path;
import java.util.regex.Matcher;
import java.util.regex.Pattern;

/** The rules of LANGUAGE.md that a look at the text of the source can tell. Its argument is the project's directory. */
public final class LanguageTest {
    private static final Check CHECK = new Check("LanguageTest");
    private static final String[] FORBIDDEN = {
        "\\bthrow\\b", "\\bthrows\\b", "\\btry\\b", "\\bcatch\\b", "\\bsynchronized\\b", "\\bassert\\b", "::",
        "\\)\\s*->", "\\bpackage\\b", "\\bprotected\\b", "Exception\\b", "\\bThread\\b", "\\bRandom\\b",
        "\\bstatic\\s*\\{", "Exact\\b", "\\bSystem\\.(?!arraycopy\\b)", "\\bhashCode\\b",
        "\\bimport\\s+(?!java\\.util\\.(ArrayList|List|Arrays|Iterator);)",
    };

    public static void main(String[] args) throws IOException {
        Path source = Path.of(args.length == 0 ? "." : args[0], "src", "main", "java", "DendroDesk.java");
        String text = Files.readString(source);
        String code = text.replaceAll("(?s)/\\*.*?\\*/", "").replaceAll("//[^\n]*", "");
        for (String word : FORBIDDEN) {
            CHECK.due("the code has no " + word, Pattern.compile(word).matcher(code).find(), false);
        }
        CHECK.due("one file", Files.list(source.getParent()).count(), 1);
        fewParameters(code);
        CHECK.finish();
    }

    private static void fewParameters(String code) {
        Matcher method = Pattern.compile("(?:public|private)[^;={(]*\\(([^)]*)\\) \\{").matcher(code);
        while (method.find()) {
            CHECK.due(method.group(), method.group(1).split(",").length <= 7, true);
        }
    }
}
