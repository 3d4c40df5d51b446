import java.lang.reflect.Constructor;
import java.lang.reflect.Field;
import java.lang.reflect.Method;
import java.lang.reflect.Modifier;
import java.util.ArrayList;
import java.util.List;
import java.util.Set;
import java.util.TreeSet;

/** The face is the document's and nothing more, and the shape of the classes keeps to LANGUAGE.md 1, 5 and 11. */
public final class FaceTest {
    private static final String[] METHODS = {
        "int works(int)", "int weeks(int)", "int lot(int,int,int)", "int rail(int,int)", "int told(int,int)",
        "int total(int)", "int lend(int,int,int)", "int shut(int,boolean,int)", "int open(int,int,int)",
        "int quota(int,int,int)", "int left(int)", "int type(long,int)", "int parts()",
        "int ship(int,int,int,int,int)", "int load(int,int,int)", "int held(int,int)", "int grade(int)",
        "int surf(int,int,int,int,int)", "int sea(int)", "int bar(int)", "int lay(int)", "int laid(int,int)",
        "int count(int)", "int sheet(int,int,int)", "int drop(int)", "int item(int,int,int,int)",
        "int copy(int,int,int,int,int)",
    };
    private static final Check CHECK = new Check("FaceTest");

    public static void main(String[] args) {
        constants();
        methods();
        classesInside();
        CHECK.close();
    }

    private static void constants() {
        CHECK.section("constants");
        CHECK.due("BAD", SaltPool.BAD, -1);
        CHECK.due("NOT", SaltPool.NOT, -2);
        CHECK.due("FULL", SaltPool.FULL, -3);
        CHECK.due("NULL", SaltPool.NULL, -11);
        CHECK.due("CAST", SaltPool.CAST, -12);
        CHECK.due("INDEX", SaltPool.INDEX, -13);
        CHECK.due("SIZE", SaltPool.SIZE, -14);
        int shown = 0;
        for (Field field : SaltPool.class.getDeclaredFields()) {
            if (!Modifier.isPrivate(field.getModifiers())) {
                shown++;
            }
        }
        CHECK.due("fields that are not private", shown, 7);
    }

    private static void methods() {
        CHECK.section("methods");
        Set<String> wanted = new TreeSet<>(List.of(METHODS));
        Set<String> shown = new TreeSet<>();
        Set<String> names = new TreeSet<>();
        List<Method> hidden = new ArrayList<>();
        for (Method method : SaltPool.class.getDeclaredMethods()) {
            if (Modifier.isPrivate(method.getModifiers())) {
                hidden.add(method);
            } else {
                shown.add(signature(method));
                names.add(method.getName());
                CHECK.holds(method + " is public", Modifier.isPublic(method.getModifiers()));
            }
        }
        CHECK.holds("the methods " + shown + " are those of the document", shown.equals(wanted));
        for (Method method : hidden) {
            CHECK.holds(method + " bears a name of its own", !names.contains(method.getName()));
        }
        Constructor<?>[] made = SaltPool.class.getDeclaredConstructors();
        CHECK.due("constructors", made.length, 1);
        CHECK.due("parameters of the constructor", made[0].getParameterCount(), 0);
        CHECK.holds("the constructor is public", Modifier.isPublic(made[0].getModifiers()));
        CHECK.holds("the class is final", Modifier.isFinal(SaltPool.class.getModifiers()));
    }

    private static String signature(Method method) {
        StringBuilder told = new StringBuilder(method.getReturnType().getName());
        told.append(' ').append(method.getName()).append('(');
        String between = "";
        for (Class<?> type : method.getParameterTypes()) {
            told.append(between).append(type.getName());
            between = ",";
        }
        return told.append(')').toString();
    }

    private static void classesInside() {
        CHECK.section("classes inside");
        Class<?>[] inside = SaltPool.class.getDeclaredClasses();
        CHECK.holds("at most twelve classes", inside.length < 12);
        shape(SaltPool.class);
        for (Class<?> one : inside) {
            CHECK.holds(one + " is static", Modifier.isStatic(one.getModifiers()));
            CHECK.holds(one + " is not public or protected",
                    (one.getModifiers() & (Modifier.PUBLIC | Modifier.PROTECTED)) == 0);
            shape(one);
            for (Method method : one.getDeclaredMethods()) {
                CHECK.holds(method + " bears no name of the face", !isOfFace(method.getName()));
            }
        }
    }

    private static boolean isOfFace(String name) {
        for (String method : METHODS) {
            if (method.startsWith("int " + name + "(")) {
                return true;
            }
        }
        return false;
    }

    private static void shape(Class<?> one) {
        int fields = 0;
        for (Field field : one.getDeclaredFields()) {
            boolean isStatic = Modifier.isStatic(field.getModifiers());
            CHECK.holds(field + " is no static state", !isStatic || Modifier.isFinal(field.getModifiers()));
            fields += isStatic ? 0 : 1;
        }
        CHECK.holds(one + " has at most twenty fields", fields <= 20);
        for (Method method : one.getDeclaredMethods()) {
            CHECK.holds(method + " has at most seven parameters", method.getParameterCount() <= 7);
        }
    }
}
