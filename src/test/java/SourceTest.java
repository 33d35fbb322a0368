import java.io.IOException;
import java.lang.reflect.Executable;
import java.lang.reflect.Field;
import java.lang.reflect.Modifier;
import java.nio.charset.StandardCharsets;
import java.nio.file.Files;
import java.nio.file.Path;
import java.util.ArrayList;
import java.util.List;
import java.util.TreeSet;
import java.util.regex.Matcher;
import java.util.regex.Pattern;

/**
 * The source has the face of ../shared/DOC.md, in its order and under its headings, and keeps to those
 * rules of ../shared/LANGUAGE.md that can be read off its lines.
 */
public final class SourceTest {
    private static final Path SOURCE = Path.of("src/main/java/ParcelledTable.java");
    private static final int MOST_LINES = 60;
    private static final int MOST_PARAMETERS = 7;
    private static final int MOST_CLASSES = 12;
    private static final int MOST_FIELDS = 20;

    private static final String[] FACE = {
        "public final class ParcelledTable",
        "public static final int NONE = -1;",
        "public ParcelledTable()",
        "// ---- parts",
        "public int makePart(int from, int to, int kind, int detail)"
            + " throws IllegalArgumentException, IllegalStateException",
        "public int carveOut(int from, int to, int kind, int detail)"
            + " throws IllegalArgumentException, IllegalStateException",
        "public int split(int part, int at)"
            + " throws IndexOutOfBoundsException, IllegalArgumentException, IllegalStateException",
        "public int merge(int part, int other) throws IndexOutOfBoundsException, IllegalStateException",
        "public int detach(int part) throws IndexOutOfBoundsException, IllegalStateException",
        "public int attach(int part) throws IndexOutOfBoundsException, IllegalStateException",
        "public int exchange(int part, int other) throws IndexOutOfBoundsException, IllegalStateException",
        "// ---- rows",
        "public int insert(int key, int sort, int value) throws IllegalArgumentException, IllegalStateException",
        "public boolean change(int row, int key, int sort)"
            + " throws IndexOutOfBoundsException, IllegalArgumentException, IllegalStateException",
        "public int remove(int row) throws IndexOutOfBoundsException",
        "// ---- what is asked: parts and rows",
        "public int parts()",
        "public int stateOf(int part) throws IndexOutOfBoundsException",
        "public int partOf(int key) throws IllegalArgumentException",
        "public int leafOf(int row) throws IndexOutOfBoundsException",
        "public int rowsIn(int part, int leaf) throws IndexOutOfBoundsException",
        "public int rows()",
        "// ---- what is asked: questions",
        "public int count(int low, int high, int sorts) throws IllegalArgumentException",
        "public int countPlain(int low, int high, int sorts) throws IllegalArgumentException",
        "public int read(int low, int high, int sorts) throws IllegalArgumentException",
        "public boolean matters(int part, int leaf, int low, int high, int sorts)"
            + " throws IndexOutOfBoundsException, IllegalArgumentException",
        "// ---- indexes",
        "public boolean isStale()",
        "public int buildIndex()",
        "public int find(int value) throws IllegalArgumentException, IllegalStateException",
        "public int findIn(int part, int value) throws IndexOutOfBoundsException, IllegalArgumentException",
    };

    private static final Checks CHECKS = new Checks("SourceTest");

    public static void main(String[] args) throws IOException {
        String source = Files.readString(SOURCE, StandardCharsets.UTF_8);
        String code = withoutCommentsAndTexts(source);
        CHECKS.report("the face", String.join("\n", FACE), String.join("\n", faceOf(source)));
        CHECKS.report("signs other than 1 to 127", "[]", found("[^\\x01-\\x7f]", source));
        CHECKS.report("words and signs that no line may have", "[]", found(
            "\\b(package|import|try|catch|finally|synchronized|assert|volatile|native)\\b|->|::|@", code));
        CHECKS.report("texts joined by +", "[]", found("\"\"\\s*\\+|\\+\\s*\"\"", code));
        CHECKS.report("throws of another form", "[]", found(
            "\\bthrow\\b(?! new (IndexOutOfBounds|IllegalArgument|IllegalState)Exception\\(\"\"\\);)", code));
        CHECKS.report("names of the library", "[IllegalArgumentException, IllegalStateException,"
            + " IndexOutOfBoundsException, Math.max, Math.min, ParcelledTable, Part, Question, Row]",
            found("\\bMath\\.\\w+|\\b[A-Z]\\w*[a-z]\\w*", code));
        methods(code);
        classes();
        CHECKS.end();
    }

    // What stands below the last public member is private, whatever its headings say.
    private static List<String> faceOf(String source) {
        List<String> face = new ArrayList<>();
        int behindLastMember = 0;
        Matcher line = Pattern.compile("(?m)^ *(// ---- .*$|public [^{;=]*(?:= [^;]*;)?)").matcher(source);
        while (line.find()) {
            face.add(line.group(1).replaceAll("\\s+", " ").strip());
            if (line.group(1).startsWith("public")) {
                behindLastMember = face.size();
            }
        }
        return face.subList(0, behindLastMember);
    }

    private static String withoutCommentsAndTexts(String source) {
        return source.replaceAll("\"[^\"\n]*\"", "\"\"").replaceAll("(?s)/\\*.*?\\*/|//[^\n]*", "");
    }

    private static String found(String pattern, String text) {
        TreeSet<String> found = new TreeSet<>();
        Matcher matcher = Pattern.compile(pattern).matcher(text);
        while (matcher.find()) {
            found.add(matcher.group());
        }
        return found.toString();
    }

    private static void methods(String code) {
        // A method begins with its head and ends with a brace as far in as that head.
        Matcher method = Pattern.compile("(?ms)^( +)((?:\\w+ )*\\w+)\\([^;=]*?\\{$.*?^\\1\\}$").matcher(code);
        int seen = 0;
        while (method.find()) {
            String head = method.group(2);
            seen++;
            long lines = method.group().lines().count();
            CHECKS.yes(head + " has " + lines + " lines", () -> lines <= MOST_LINES);
            boolean constructor = head.matches("(public )?[A-Z]\\w*");
            CHECKS.no(head + " is a constructor that throws", () -> constructor && method.group().contains("throw "));
        }
        int methods = seen;
        CHECKS.yes("all methods were looked at, not " + methods + " alone", () -> methods == membersOfAll());
    }

    private static int membersOfAll() {
        int members = membersOf(ParcelledTable.class).size();
        for (Class<?> inner : ParcelledTable.class.getDeclaredClasses()) {
            members += membersOf(inner).size();
        }
        return members;
    }

    private static List<Executable> membersOf(Class<?> type) {
        List<Executable> members = new ArrayList<>(List.of(type.getDeclaredMethods()));
        members.addAll(List.of(type.getDeclaredConstructors()));
        members.removeIf(Executable::isSynthetic);
        return members;
    }

    private static void classes() {
        Class<?>[] inside = ParcelledTable.class.getDeclaredClasses();
        CHECKS.yes("few classes", () -> inside.length < MOST_CLASSES);
        oneClass(ParcelledTable.class);
        for (Class<?> inner : inside) {
            oneClass(inner);
            CHECKS.yes(inner + " is static", () -> Modifier.isStatic(inner.getModifiers()));
            CHECKS.no(inner + " is seen", () -> (inner.getModifiers() & (Modifier.PUBLIC | Modifier.PROTECTED)) != 0);
        }
    }

    private static void oneClass(Class<?> type) {
        int fields = 0;
        for (Field field : type.getDeclaredFields()) {
            boolean constant = Modifier.isStatic(field.getModifiers());
            fields += constant ? 0 : 1;
            CHECKS.yes(field + " is final or of one object", () -> !constant || Modifier.isFinal(field.getModifiers()));
        }
        int most = fields;
        CHECKS.yes(type + " has few fields", () -> most <= MOST_FIELDS);
        for (Executable member : membersOf(type)) {
            CHECKS.yes(member + " has few parameters", () -> member.getParameterCount() <= MOST_PARAMETERS);
        }
    }
}
