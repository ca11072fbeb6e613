import java.io.IOException;
import java.nio.file.Files;
import java.nio.file.Path;
import java.util.List;
import java.util.regex.Matcher;
import java.util.regex.Pattern;

/** Those rules of LANGUAGE.md that the text of the program shows. The first argument is its file. */
public final class LanguageTest {
    private static final Check check = new Check("LanguageTest");

    public static void main(String[] arguments) throws IOException {
        String source = Files.readString(Path.of(arguments[0]));
        String code = source.replaceAll("(?s)/\\*.*?\\*/", "").replaceAll("//[^\n]*", "")
            .replaceAll("\"[^\"\n]*\"", "\"\"");
        for (String banned : List.of("\\bimport\\b", "\\bpackage\\b", "->", "::", "\\btry\\b",
            "\\bcatch\\b", "\\bfinally\\b", "\\bsynchronized\\b", "\\bassert\\b", "\\bstrictfp\\b",
            "\\bnative\\b", "\\bthread", "\\bObject\\b", "\\bvar\\b", "\\byield\\b", "\\bprotected\\b",
            "\\bvolatile\\b", "\\bequals\\b", "\\bhashCode\\b", "\\btoString\\b")) {
            check.same(banned + " is used", Pattern.compile(banned).matcher(code).find(), false);
        }
        libraryCalls(code);
        exceptions(code);
        staticFields(code);
        divisors(code);
        plainCharacters(source);
        check.end();
    }

    /** Nothing of the library but what stands here. */
    private static void libraryCalls(String code) {
        List<String> allowed = List.of("Math.min", "Math.max", "System.arraycopy");
        Matcher calls = Pattern.compile("\\b[A-Z][a-z]\\w*\\.\\w+").matcher(code);
        while (calls.find()) {
            check.same(calls.group() + " is allowed", allowed.contains(calls.group()), true);
        }
    }

    private static void exceptions(String code) {
        Matcher thrown = Pattern.compile("\\bthrow\\b[^;]*;").matcher(code);
        String form = "throw new (IllegalState|IllegalArgument|IndexOutOfBounds)"
            + "Exception\\(\"\"\\);";
        while (thrown.find()) {
            check.same(thrown.group() + " is of the form", thrown.group().matches(form), true);
        }
    }

    private static void staticFields(String code) {
        Matcher statics = Pattern.compile("\\bstatic\\b[^;{]*[;{]").matcher(code);
        while (statics.find()) {
            String text = statics.group();
            boolean constant = text.matches("(?s)static final int [^;{]*;");
            boolean inside = text.matches("(?s)static final class \\w+ \\{");
            check.same(text + " is a constant or a class", constant || inside, true);
        }
    }

    /** A divisor is a number that is written out, and not 0. */
    private static void divisors(String code) {
        Matcher divided = Pattern.compile("[/%]=?\\s*(\\S)").matcher(code);
        while (divided.find()) {
            check.same(divided.group() + " is safe", divided.group(1).matches("[1-9]"), true);
        }
    }

    private static void plainCharacters(String source) {
        boolean plain = source.chars().allMatch(sign -> sign == '\n' || sign >= 32 && sign < 127);
        check.same("only plain characters", plain, true);
    }
}
