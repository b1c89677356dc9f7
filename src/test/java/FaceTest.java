import java.lang.reflect.Constructor;
import java.lang.reflect.Field;
import java.lang.reflect.Method;
import java.lang.reflect.Modifier;
import java.util.TreeSet;

/** The public face: all that the document names, and nothing beside it. */
public final class FaceTest {
    private static final Check CHECK = new Check("FaceTest");
    private static final String[] FACE = {
        "int points(int)", "boolean put(int,int,int)", "int distance(int,int)", "boolean place(int,int,int)",
        "boolean measure(int)", "int feed(int,int,int,int,int)", "int end(int)", "int take()", "int read()",
        "int fault()", "int write()", "int out(int)", "long linkage(int,int,int,int)", "int greedy(int,int)",
        "int chain(int,int)", "int tree(int,int)", "int step(int,int,int)", "long height(int,int,int)",
        "int joins(int,int,int)", "boolean same(int,int)", "int text(int)", "int order(int,int)", "int cut(int,int)",
        "int cutAt(int,int,int)", "int label(int,int)", "int agree(int,int)", "int middle(int,int)",
    };

    public static void main(String[] args) {
        CHECK.due("NONE", DendroDesk.NONE, -1);
        CHECK.due("a public final class", Modifier.toString(DendroDesk.class.getModifiers()), "public final");
        methods();
        fields();
        Constructor<?>[] constructors = DendroDesk.class.getDeclaredConstructors();
        CHECK.due("constructors", constructors.length, 1);
        CHECK.due("its parameters", constructors[0].getParameterCount(), 0);
        CHECK.due("public constructor", Modifier.isPublic(constructors[0].getModifiers()), true);
        classesInside();
        CHECK.finish();
    }

    private static String told(Method method) {
        StringBuilder text = new StringBuilder(method.getReturnType().getName() + " " + method.getName() + "(");
        for (Class<?> type : method.getParameterTypes()) {
            text.append(text.charAt(text.length() - 1) == '(' ? "" : ",").append(type.getName());
        }
        return text.append(')').toString();
    }

    private static void methods() {
        TreeSet<String> due = new TreeSet<>();
        TreeSet<String> got = new TreeSet<>();
        for (String method : FACE) {
            due.add(method);
        }
        for (Method method : DendroDesk.class.getDeclaredMethods()) {
            if (!Modifier.isPrivate(method.getModifiers())) {
                got.add(told(method));
                CHECK.due(method.getName(), Modifier.toString(method.getModifiers()), "public");
            }
        }
        CHECK.due("methods", got.toString(), due.toString());
    }

    private static void fields() {
        for (Field field : DendroDesk.class.getDeclaredFields()) {
            String due = field.getName().equals("NONE") ? "public static final" : "private";
            CHECK.due(field.getName(), Modifier.toString(field.getModifiers()).startsWith(due), true);
        }
    }

    /** Private or package-visible and static; no private method of the class bears a public one's name. */
    private static void classesInside() {
        TreeSet<String> names = new TreeSet<>();
        for (String method : FACE) {
            names.add(method.substring(method.indexOf(' ') + 1, method.indexOf('(')));
        }
        for (Method method : DendroDesk.class.getDeclaredMethods()) {
            if (Modifier.isPrivate(method.getModifiers())) {
                CHECK.due("the private " + method.getName(), names.contains(method.getName()), false);
            }
        }
        for (Class<?> one : DendroDesk.class.getDeclaredClasses()) {
            CHECK.due(one + " is static", Modifier.isStatic(one.getModifiers()), true);
            CHECK.due(one + " is public", Modifier.isPublic(one.getModifiers()), false);
            CHECK.due(one + " is protected", Modifier.isProtected(one.getModifiers()), false);
        }
    }
}
