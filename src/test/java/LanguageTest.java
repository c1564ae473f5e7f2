import java.io.IOException;
import java.nio.file.Files;
import java.nio.file.Path;
import java.util.HashSet;
import java.util.Set;
import java.util.regex.Matcher;
import java.util.regex.Pattern;

/** The rules of ../shared/LANGUAGE.md that show in the text of the program. */
public final class LanguageTest {
    /** Words and signs that no rule allows, or that could hide what the machine throws. */
    private static final String[] NEVER = {"package",
        "\\bjavax?\\.(?!util\\.(ArrayList|Arrays|Iterator|List|NoSuchElementException);)", "synchronized", "assert",
        "finally", "->", "::", "volatile", "transient", "native", "catch", "getMessage", "Exact\\(", "(?<!\\w)main\\(",
        "static \\{", "protected", "hashCode", "hypot|sqrt|random|currentTime|nanoTime",
        "\\[\\]\\[\\]\\[\\]", "/ \\(?0", "\" \\+|\\+ \""};
    private static final String EXCEPTIONS = "IllegalStateException|IllegalArgumentException"
            + "|IndexOutOfBoundsException|ArithmeticException|UnsupportedOperationException|NoSuchElementException"
            + "|RuntimeException";
    private static final Set<String> LIBRARY = Set.of("String", "StringBuilder", "ArrayList", "List", "Integer", "Long",
            "Math", "Arrays", "System", "Iterator", "Iterable", "Comparable");
    private static final Set<String> STATICS = Set.of("List.of", "Integer.compare", "Integer.max", "Integer.min",
            "Integer.bitCount", "Long.compare", "Long.max", "Long.min", "Long.bitCount", "Math.max", "Math.min",
            "Math.abs", "Math.floorDiv", "Math.floorMod", "System.arraycopy", "Arrays.copyOf", "Arrays.copyOfRange",
            "Arrays.fill");

    private final Check check = new Check();
    private final String source;
    /** The source with neither comments nor what stands between quotes. */
    private final String code;

    private LanguageTest(String source) {
        this.source = source;
        code = source.replaceAll("(?s)/\\*.*?\\*/", "").replaceAll("//.*", "").replaceAll("\"[^\"]*\"", "\"\"")
                .replaceAll("'[^']'", "' '");
    }

    public static void main(String[] args) throws IOException {
        LanguageTest test = new LanguageTest(
                Files.readString(Path.of("src", "main", "java", "PivotChamber.java")));
        test.check.topic("language");
        test.words();
        test.namesOfTypes();
        test.exceptions();
        test.staticFields();
        test.divisors();
        test.indices();
        test.sizes();
        test.check.end("LanguageTest");
    }

    private void words() {
        for (String never : NEVER) {
            check.holds("nowhere stands " + never, !Pattern.compile(never).matcher(code).find());
        }
        check.holds("signs are 1 to 127", source.chars().allMatch(sign -> sign >= 1 && sign <= 127));
    }

    /** Rules 3 and 4: each type is the program's own or listed, and of the listed ones only what is listed. */
    private void namesOfTypes() {
        Set<String> own = new HashSet<>();
        Matcher declared = Pattern.compile("(?:class|enum|interface|record) (\\w+)").matcher(code);
        while (declared.find()) {
            own.add(declared.group(1));
        }
        check.holds("some twelve classes at most", own.size() <= 12);
        Matcher type = Pattern.compile("(?<!\\.)\\b[A-Z]\\w*[a-z]\\w*").matcher(code);
        while (type.find()) {
            String name = type.group();
            check.holds("type " + name, own.contains(name) || LIBRARY.contains(name) || name.matches(EXCEPTIONS));
        }
        Matcher call = Pattern.compile("\\b(" + String.join("|", LIBRARY) + ")\\.\\w+").matcher(code);
        while (call.find()) {
            check.holds("library function " + call.group(), STATICS.contains(call.group()));
        }
    }

    /** Rule 6: what is thrown is new, listed, and has a written text or none. */
    private void exceptions() {
        Matcher thrown = Pattern.compile("\\bthrow\\b.*").matcher(code);
        while (thrown.find()) {
            check.holds(thrown.group(), thrown.group().matches("throw new (" + EXCEPTIONS + ")\\((\"\")?\\);"));
        }
    }

    /** Rule 5. */
    private void staticFields() {
        Matcher field = Pattern.compile("(?m)^.*\\bstatic\\b[^({=;\n]*(=.*)?;$").matcher(code);
        while (field.find()) {
            check.holds(field.group().strip(), field.group().contains(" static final "));
        }
    }

    /** Rule 7: a divisor is a written number, a constant, or compared with 0 in the very line. */
    private void divisors() {
        Matcher division = Pattern.compile("(?m)^.* [/%]=? (?:\\(\\w+\\) )?([\\w.]+)(.*)$").matcher(code);
        int divisions = 0;
        while (division.find()) {
            String divisor = division.group(1);
            boolean isCall = division.group(2).startsWith("(");
            boolean isConstant = divisor.matches("[1-9][0-9]*|[A-Z]+_[A-Z_]+");
            boolean isCompared = division.group().contains(divisor + " == 0 ?");
            check.holds(division.group().strip(), !isCall && (isConstant || isCompared));
            divisions++;
        }
        check.holds("divisions are found", divisions >= 4);
    }

    /** Rule 7: where an array is indexed, its length stands in the same line or in the two ahead of it. */
    private void indices() {
        String[] lines = code.split("\n");
        int found = 0;
        for (int i = 2; i < lines.length; i++) {
            Matcher index = Pattern.compile("(\\w+)\\[\\w+\\]").matcher(lines[i]);
            while (index.find()) {
                if (!lines[i].contains("new " + index.group())) {
                    String near = lines[i - 2] + lines[i - 1] + lines[i];
                    check.holds(lines[i].strip(), near.contains(index.group(1) + ".length"));
                    found++;
                }
            }
        }
        check.holds("indices are found", found > 4);
    }

    /** Rule 11: some sixty lines a method, and seven parameters at most; some twenty fields a class. */
    private void sizes() {
        String method = "(?m)^( +)(?:(?:public|private|static) )*[\\w\\[\\]]+ \\w+\\(([^)]*)\\)[^;{]*\\{$";
        Matcher head = Pattern.compile(method).matcher(code);
        int methods = 0;
        while (head.find()) {
            int end = code.indexOf("\n" + head.group(1) + "}\n", head.end());
            long lines = code.substring(head.start(), Math.max(end, head.start())).lines().count() + 1;
            check.holds(head.group().strip() + " has an end", end > 0);
            check.holds(head.group().strip() + " has " + lines + " lines", lines <= 60);
            check.holds(head.group().strip() + " takes at most seven", head.group(2).split(",").length <= 7);
            methods++;
        }
        check.holds("methods are found", methods > 27);
    }
}
