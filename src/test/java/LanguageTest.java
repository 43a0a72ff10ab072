import java.nio.file.Files;
import java.nio.file.Path;
import java.util.regex.Matcher;
import java.util.regex.Pattern;

/** The source keeps to those rules of LANGUAGE.md that a look at its words can tell. */
public final class LanguageTest {
    private static final String[] NEVER = {
        "\\bpackage\\b", "\\bthrows?\\b", "\\btry\\b", "\\bcatch\\b", "\\bfinally\\b", "\\bsynchronized\\b",
        "\\bassert\\b", "\\bvar\\b", "\\)\\s*->", "=\\s*\\w+\\s*->", "::", "\\w+Exact\\b",
        "\\bSystem\\.(?!arraycopy\\b)", "\\bThread\\b", "\\bRandom\\b", "\\bHash\\w+", "\\bprotected\\b",
        "\\bboolean\\s+equals\\b", "\\bhashCode\\b", "\\bString\\s+toString\\b",
        "\\bimport (?!java\\.util\\.(ArrayList|List|Arrays|Iterator|\\*);)", "[^\\x00-\\x7f]",
        "\\[\\]\\s*\\[\\]\\s*\\[\\]", "\\bstatic\\s*\\{", "\\bwhile\\s*\\(\\s*true", "for\\s*\\(\\s*;\\s*;"
    };

    public static void main(String[] args) throws Exception {
        String source = Files.readString(Path.of(args[0], "src/main/java/BinderParcels.java"));
        String code = source.replaceAll("(?s)/\\*.*?\\*/", "").replaceAll("//[^\n]*", "");
        int wrong = 0;
        for (String words : NEVER) {
            Matcher matcher = Pattern.compile(words).matcher(code);
            if (matcher.find()) {
                wrong++;
                System.out.println("the source has '" + matcher.group() + "'");
            }
        }
        if (wrong != 0) {
            System.exit(1);
        }
    }
}
