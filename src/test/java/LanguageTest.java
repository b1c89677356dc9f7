import java.io.IOException;
import java.nio.file.Files;
import java.nio.file.Path;
import java.util.regex.Matcher;
import java.util.regex.Pattern;

/** The rules of LANGUAGE.md that a look at the text of the source can tell. Its argument is the project's directory. */
public final class LanguageTest {
    private static final Check CHECK = new Check("LanguageTest");
    private static final String[] FORBIDDEN = {
        "\\bthrow\\b", "\\bthrows\\b", "\\btry\\b", "\\bcatch\\b", "\\bsynchronized\\b", "\\bassert\\b", "->", "::",
        "\\bimport\\b", "\\bpackage\\b", "\\bprotected\\b", "\\bException\\b", "\\bThread\\b", "\\bRandom\\b",
        "\\bstatic\\s*\\{", "\\bString\\.format\\b", "Exact\\b", "\\bprintln\\b", "\\bcurrentTimeMillis\\b",
        "\\bnanoTime\\b", "\\btoString\\b", "\\bhashCode\\b", "\\bequals\\b",
    };

    public static void main(String[] args) throws IOException {
        Path source = Path.of(args.length == 0 ? "." : args[0], "src", "main", "java", "DendroDesk.java");
        String text = Files.readString(source);
        String code = text.replaceAll("(?s)/\\*.*?\\*/", "").replaceAll("//[^\n]*", "");
        for (String word : FORBIDDEN) {
            CHECK.due("the code has no " + word, Pattern.compile(word).matcher(code).find(), false);
        }
        CHECK.due("one file", Files.list(source.getParent()).count(), 1);
        noRowsInCalls(code);
        fewParameters(code);
        CHECK.finish();
    }

    /** Rows are made with fields alone, so that a call makes no objects; trees in the constructor. */
    private static void noRowsInCalls(String code) {
        for (String line : code.split("\n")) {
            if (line.contains("new ") && !line.contains("final")) {
                CHECK.due("an object that a call makes", line.trim(), "slots[s] = new Tree();");
            }
        }
    }

    private static void fewParameters(String code) {
        Matcher method = Pattern.compile("(?:public|private)[^;={(]*\\(([^)]*)\\) \\{").matcher(code);
        while (method.find()) {
            CHECK.due(method.group(), method.group(1).split(",").length <= 7, true);
        }
    }
}
