import java.nio.file.Files;
import java.nio.file.Path;
import java.util.regex.Matcher;
import java.util.regex.Pattern;

/** The rules of ../shared/LANGUAGE.md that the source's words alone can tell. */
final class LanguageTest {
    private static final String[] RULED_OUT = {"\\bthrow\\b", "\\btry\\b", "\\bcatch\\b", "\\bfinally\\b",
        "\\bassert\\b", "\\bsynchronized\\b", "->", "::", "\\bimport\\b", "\\bpackage\\b", "\\bequals\\b",
        "\\bhashCode\\b", "\\btoString\\b", "\\bprotected\\b", "\\b\\w+Exact\\b", "\\bstatic\\s*\\{", "\\bwhile\\b"};

    public static void main(String[] args) throws Exception {
        String source = withoutComments(Files.readString(Path.of(System.getProperty("source"))));
        for (String word : RULED_OUT) {
            Check.due("in the source: " + word, Pattern.compile(word).matcher(source).find() ? 1 : 0, 0);
        }
        objectsAreMadeInConstructors(source);
        staticFieldsAreFinal(source);
        Check.due("signs beyond 127", source.chars().filter(sign -> sign > 127).count(), 0);
        Check.end("LanguageTest");
    }

    private static String withoutComments(String source) {
        return source.replaceAll("(?s)/\\*.*?\\*/", "").replaceAll("//.*", "");
    }

    /** All objects are made by constructors and initialisers, so a call makes none. */
    private static void objectsAreMadeInConstructors(String source) {
        Matcher made = Pattern.compile("(?m)^(.*)\\bnew\\b.*$").matcher(source);
        while (made.find()) {
            String before = made.group(1).trim();
            boolean inConstructor = before.matches("(private )?final [\\w\\[\\]]+ \\w+ =")
                    || before.matches("(instance|present|saved|draft|history|challengers|populars) =")
                    || before.matches("(presents|saveds)\\[edit\\] =");
            Check.due("made outside a constructor: " + made.group().trim(), inConstructor ? 1 : 0, 1);
        }
    }

    private static void staticFieldsAreFinal(String source) {
        Matcher field = Pattern.compile("(?m)^.*\\bstatic\\b[^(]*=.*$").matcher(source);
        while (field.find()) {
            Check.due("not final: " + field.group().trim(), field.group().contains(" final ") ? 1 : 0, 1);
        }
    }
}
