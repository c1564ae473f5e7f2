import java.io.IOException;
import java.lang.reflect.Constructor;
import java.lang.reflect.Field;
import java.lang.reflect.Member;
import java.lang.reflect.Method;
import java.lang.reflect.Modifier;
import java.nio.file.Files;
import java.nio.file.Path;
import java.util.ArrayList;
import java.util.Arrays;
import java.util.List;
import java.util.Set;
import java.util.TreeSet;
import java.util.regex.Matcher;
import java.util.regex.Pattern;

/** The face is the document's and nothing more, and the rules of the language that show in the classes are kept. */
public final class FaceTest {
    private static final String[] FACE = {
        "int add(int)", "int setWeight(int, int)", "int setQuota(int)", "int follow(int, int)", "int leave(int)",
        "int addRule(int, int)", "int dropRule(int)", "int member(int, int)", "int rule(int, int)", "int whole(int)",
        "int wins(int)", "int least(int)", "float share(int)", "double part(int)", "int reason(int)", "int pivot(int)",
        "int swingsWith(int, int)", "int bestQuota(int)", "int dummiesWith(int)", "int leastWeight(int)",
        "double unionGain(int, int)", "int compare(int, int)", "int type(int)", "int clearCommands()",
        "int runCommands()", "int undo()", "long digest()"};

    private final Check check = new Check();

    public static void main(String[] args) throws IOException {
        FaceTest test = new FaceTest();
        test.check.topic("face");
        String document = Files.readString(Path.of("..", "shared", "DOC.md"));
        String source = Files.readString(Path.of("src", "main", "java", "PivotChamber.java"));
        test.declarations(document, source);
        test.headings(document, source);
        test.methods();
        test.fieldsAndConstructors();
        test.classesInside();
        test.check.end("FaceTest");
    }

    private static boolean isPrivate(Member member) {
        return Modifier.isPrivate(member.getModifiers()) || member.isSynthetic();
    }

    private static String signature(Method method) {
        String types = Arrays.stream(method.getParameterTypes()).map(Class::getName).reduce((a, b) -> a + ", " + b)
                .orElse("");
        return method.getReturnType().getName() + " " + method.getName() + "(" + types + ")";
    }

    /** Each public declaration, its exceptions too, in the order and in the words of the document. */
    private void declarations(String document, String source) {
        String face = document.substring(document.indexOf("```java") + 7);
        List<String> due = publicOnes(face.substring(0, face.indexOf("```")));
        check.same("the class, its constant, its constructor and its methods", due.size(), FACE.length + 3);
        check.same("public declarations", String.join("\n", publicOnes(source)), String.join("\n", due));
    }

    private static List<String> publicOnes(String text) {
        List<String> found = new ArrayList<>();
        Matcher matcher = Pattern.compile("(?m)^\\s*(public [^{;]*)[{;]").matcher(text);
        while (matcher.find()) {
            found.add(matcher.group(1).strip().replaceAll("\\s+", " "));
        }
        return found;
    }

    /** What the interface says ahead of which calls. */
    private void headings(String document, String source) {
        StringBuilder due = new StringBuilder();
        Matcher ahead = Pattern.compile("(?m)^Ahead of the calls (.*) the interface says: ---- (.*)\\.$")
                .matcher(document);
        while (ahead.find()) {
            due.append("---- ").append(ahead.group(2)).append(": ").append(ahead.group(1).replace("`", ""));
            due.append('\n');
        }
        check.holds("the document has headings", due.length() > 0);
        StringBuilder got = new StringBuilder();
        String link = "";
        Matcher line = Pattern.compile("(?m)^    (?:// (---- .*)|public \\w+ (\\w+)\\(.*)$").matcher(source);
        while (line.find()) {
            if (line.group(1) != null) {
                got.append(got.length() == 0 ? "" : "\n").append(line.group(1));
                link = ": ";
            } else if (got.length() > 0) {
                got.append(link).append(line.group(2));
                link = ", ";
            }
        }
        check.same("headings and their calls", got + "\n", due.toString());
    }

    private void methods() {
        Set<String> found = new TreeSet<>();
        Set<String> names = new TreeSet<>();
        for (Method method : PivotChamber.class.getDeclaredMethods()) {
            if (!isPrivate(method)) {
                check.holds(method + " is public and of the object", method.getModifiers() == Modifier.PUBLIC);
                found.add(signature(method));
                names.add(method.getName());
            }
        }
        check.same("methods of the face", found.toString(), new TreeSet<>(Arrays.asList(FACE)).toString());
        for (Method method : PivotChamber.class.getDeclaredMethods()) {
            check.holds("no private method is named " + method.getName(),
                    !isPrivate(method) || !names.contains(method.getName()));
            check.holds(method.getName() + " takes at most seven", method.getParameterCount() <= 7);
        }
    }

    private void fieldsAndConstructors() {
        for (Field field : PivotChamber.class.getDeclaredFields()) {
            check.holds(field.getName() + " is not open", isPrivate(field) || field.getName().equals("NONE"));
            check.holds(field.getName() + " is final if static",
                    !Modifier.isStatic(field.getModifiers()) || Modifier.isFinal(field.getModifiers()));
        }
        Constructor<?>[] constructors = PivotChamber.class.getDeclaredConstructors();
        check.same("constructors", constructors.length, 1);
        check.same("constructor", constructors[0].toString(), "public PivotChamber()");
        check.holds("the class is public and final",
                PivotChamber.class.getModifiers() == (Modifier.PUBLIC | Modifier.FINAL));
    }

    private void classesInside() {
        Class<?>[] inside = PivotChamber.class.getDeclaredClasses();
        check.holds("some twelve classes at most", inside.length <= 12);
        for (Class<?> one : inside) {
            check.holds(one + " is static", Modifier.isStatic(one.getModifiers()));
            check.holds(one + " is not public", !Modifier.isPublic(one.getModifiers()));
            int fields = 0;
            for (Field field : one.getDeclaredFields()) {
                fields += Modifier.isStatic(field.getModifiers()) ? 0 : 1;
            }
            check.holds(one + " has at most twenty fields", fields <= 20);
        }
    }
}
