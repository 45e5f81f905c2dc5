import java.lang.reflect.Constructor;
import java.lang.reflect.Field;
import java.lang.reflect.Member;
import java.lang.reflect.Method;
import java.lang.reflect.Modifier;
import java.util.TreeSet;

/** The class shows the document's face and nothing else. */
public final class FaceTests {
    private static final String[] FACE = {"int function(int, int, int)", "int code(int, int, int)", "boolean drop()",
        "boolean entry(int, int)", "int argument(long)", "boolean call(int)", "int run(int)", "int state(int)",
        "int tier(int)", "long result(int)", "long global(int)", "int memory(int)", "int look(int, int)"};

    public static void main(String[] args) {
        Check check = new Check();
        Class<?> face = RegisterMachine.class;
        check.same("public and final", face.getModifiers(), Modifier.PUBLIC | Modifier.FINAL);
        TreeSet<String> due = new TreeSet<>(java.util.List.of(FACE));
        TreeSet<String> names = new TreeSet<>();
        for (Method method : face.getDeclaredMethods()) {
            if (Modifier.isPublic(method.getModifiers())) {
                names.add(method.getName());
                check.same(shape(method) + " is of the face", due.remove(shape(method)), true);
            }
        }
        check.same("all methods of the face", due.size(), 0);
        for (Method method : face.getDeclaredMethods()) {
            if (!Modifier.isPublic(method.getModifiers())) {
                check.same(method + " has a name of its own", names.contains(method.getName()), false);
                check.same(method + " is hidden", isHidden(method), true);
            }
        }
        Constructor<?>[] constructors = face.getDeclaredConstructors();
        check.same("one constructor", constructors.length, 1);
        check.same("without parameters", constructors[0].getParameterCount(), 0);
        check.same("public", constructors[0].getModifiers(), Modifier.PUBLIC);
        for (Field field : face.getDeclaredFields()) {
            check.same(field + " is hidden", isHidden(field), true);
        }
        for (Class<?> inside : face.getDeclaredClasses()) {
            check.same(inside + " is static", Modifier.isStatic(inside.getModifiers()), true);
        }
        check.finish();
    }

    private static boolean isHidden(Member member) {
        return Modifier.isPrivate(member.getModifiers()) || member.isSynthetic();
    }

    private static String shape(Method method) {
        StringBuilder text = new StringBuilder();
        text.append(method.getReturnType()).append(' ').append(method.getName()).append('(');
        for (int i = 0; i < method.getParameterCount(); i++) {
            text.append(i == 0 ? "" : ", ").append(method.getParameterTypes()[i]);
        }
        return text.append(')').toString();
    }
}
