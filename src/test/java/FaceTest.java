import java.lang.reflect.Constructor;
import java.lang.reflect.Field;
import java.lang.reflect.Member;
import java.lang.reflect.Method;
import java.lang.reflect.Modifier;
import java.util.ArrayList;
import java.util.List;
import java.util.TreeSet;

/** The class has the face of ../shared/DOC.md, and no other member that can be seen. */
public final class FaceTest {
    private static final String NUMBER = "IndexOutOfBoundsException";
    private static final String ARGUMENT = "IllegalArgumentException";
    private static final String STATE = "IllegalStateException";

    public static void main(String[] args) {
        Checks checks = new Checks("FaceTest");
        checks.report("members", String.join("\n", due()), String.join("\n", seen()));
        checks.report("class", "public final", Modifier.toString(ParcelledTable.class.getModifiers()));
        checks.report("private methods with public names", "[]", borrowedNames().toString());
        checks.end();
    }

    private static TreeSet<String> due() {
        TreeSet<String> face = new TreeSet<>();
        face.add("public static final int NONE");
        face.add("public ParcelledTable()");
        face.add(method("int", "makePart", 4, ARGUMENT, STATE));
        face.add(method("int", "carveOut", 4, ARGUMENT, STATE));
        face.add(method("int", "split", 2, NUMBER, ARGUMENT, STATE));
        face.add(method("int", "merge", 2, NUMBER, STATE));
        face.add(method("int", "detach", 1, NUMBER, STATE));
        face.add(method("int", "attach", 1, NUMBER, STATE));
        face.add(method("int", "exchange", 2, NUMBER, STATE));
        face.add(method("int", "insert", 3, ARGUMENT, STATE));
        face.add(method("boolean", "change", 3, NUMBER, ARGUMENT, STATE));
        face.add(method("int", "remove", 1, NUMBER));
        face.add(method("int", "parts", 0));
        face.add(method("int", "stateOf", 1, NUMBER));
        face.add(method("int", "partOf", 1, ARGUMENT));
        face.add(method("int", "leafOf", 1, NUMBER));
        face.add(method("int", "rowsIn", 2, NUMBER));
        face.add(method("int", "rows", 0));
        face.add(method("int", "count", 3, ARGUMENT));
        face.add(method("int", "countPlain", 3, ARGUMENT));
        face.add(method("int", "read", 3, ARGUMENT));
        face.add(method("boolean", "matters", 5, NUMBER, ARGUMENT));
        face.add(method("boolean", "isStale", 0));
        face.add(method("int", "buildIndex", 0));
        face.add(method("int", "find", 1, ARGUMENT, STATE));
        face.add(method("int", "findIn", 2, NUMBER, ARGUMENT));
        return face;
    }

    private static String method(String type, String name, int parameters, String... thrown) {
        List<String> types = new ArrayList<>();
        for (int i = 0; i < parameters; i++) {
            types.add("int");
        }
        String head = "public " + type + " ParcelledTable." + name + "(" + String.join(",", types) + ")";
        return thrown.length == 0 ? head : head + " throws " + String.join(",", thrown);
    }

    private static TreeSet<String> seen() {
        TreeSet<String> face = new TreeSet<>();
        for (Field field : ParcelledTable.class.getDeclaredFields()) {
            if (isSeen(field)) {
                face.add(Modifier.toString(field.getModifiers()) + " " + field.getType() + " " + field.getName());
            }
        }
        for (Constructor<?> constructor : ParcelledTable.class.getDeclaredConstructors()) {
            if (isSeen(constructor)) {
                face.add(constructor.toString());
            }
        }
        for (Method method : ParcelledTable.class.getDeclaredMethods()) {
            if (isSeen(method)) {
                face.add(method.toString().replace("java.lang.", ""));
            }
        }
        return face;
    }

    private static boolean isSeen(Member member) {
        return !Modifier.isPrivate(member.getModifiers()) && !member.isSynthetic();
    }

    private static TreeSet<String> borrowedNames() {
        TreeSet<String> publicNames = new TreeSet<>();
        TreeSet<String> privateNames = new TreeSet<>();
        for (Method method : ParcelledTable.class.getDeclaredMethods()) {
            (Modifier.isPublic(method.getModifiers()) ? publicNames : privateNames).add(method.getName());
        }
        for (Class<?> inner : ParcelledTable.class.getDeclaredClasses()) {
            for (Method method : inner.getDeclaredMethods()) {
                if (Modifier.isPrivate(method.getModifiers())) {
                    privateNames.add(method.getName());
                }
            }
        }
        privateNames.retainAll(publicNames);
        return privateNames;
    }
}
