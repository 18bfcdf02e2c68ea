import java.io.IOException;
import java.nio.file.Files;
import java.nio.file.Path;
import java.util.List;
import java.util.Set;
import java.util.TreeSet;
import java.util.regex.Matcher;
import java.util.regex.Pattern;

/** What of ../shared/LANGUAGE.md can be seen in the words of the source. */
public final class LanguageTest {
    private static final Set<String> LIBRARY = Set.of("System.arraycopy", "Math.max", "Math.min", "Math.abs",
        "Integer.bitCount");
    private static final int LONGEST_METHOD = 60;
    private static final int MOST_CLASSES = 12;

    public static void main(String[] args) throws IOException {
        Check check = new Check();
        String source = Files.readString(Path.of(args[0]));
        check.holds("signs 1 to 127", source.chars().allMatch(c -> c < 128));
        String code = source.replaceAll("(?s)/\\*.*?\\*/", "").replaceAll("//[^\n]*", "")
            .replaceAll("\"[^\"\n]*\"", "TEXT").replaceAll("'[^'\n]'", "SIGN");
        for (String word : List.of("throw", "throws", "try", "catch", "finally", "synchronized", "assert", "import",
            "package", "instanceof", "volatile", "native", "float", "double", "equals", "hashCode", "toString")) {
            check.holds("no " + word, !Pattern.compile("\\b" + word + "\\b").matcher(code).find());
        }
        for (String sign : List.of("->", "::", "Exact", "TEXT +", "+ TEXT", "@")) {
            check.holds("no " + sign, !code.contains(sign));
        }
        Matcher library = Pattern.compile("\\b(System|Math|Integer|Long|Arrays|List|Character|Objects)\\.\\w+").matcher(code);
        while (library.find()) check.holds(library.group(), LIBRARY.contains(library.group()));
        check.holds("statics are final", !Pattern.compile("static (?!final)[\\w\\[\\]]+ \\w+( =|;)").matcher(code).find());
        Set<String> classes = new TreeSet<>();
        Matcher kinds = Pattern.compile("\\b(class|record|enum|interface) (\\w+)").matcher(code);
        while (kinds.find()) classes.add(kinds.group(2));
        check.holds("classes " + classes, classes.size() <= MOST_CLASSES);
        check.holds("classes inside are static", !Pattern.compile("(?<!static )final class|(?<!final )class").matcher(
            code.replaceFirst("public final class", "")).find());
        checkMethods(check, code);
        check.end("LanguageTest");
    }

    private static void checkMethods(Check check, String code) {
        Matcher method = Pattern.compile("(?m)^( +)(?! )(?:[\\w\\[\\]]+ )*(\\w+)\\(([^()]*)\\) \\{$").matcher(code);
        while (method.find()) {
            String body = code.substring(method.end(), code.indexOf("\n" + method.group(1) + "}", method.end()));
            check.holds("length of " + method.group(2), body.split("\n").length <= LONGEST_METHOD);
            check.holds("parameters of " + method.group(2), method.group(3).split(",").length <= 7);
        }
    }
}
