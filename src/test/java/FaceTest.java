import java.lang.reflect.Constructor;
import java.lang.reflect.Field;
import java.lang.reflect.Method;
import java.lang.reflect.Modifier;
import java.util.Arrays;
import java.util.TreeSet;

/** The class has the document's face and nothing else that is seen from outside. */
public final class FaceTest {
    private static final String[] FACE = {
        "int weigh(int, int)", "int fit(int, int, int)", "int store(int)", "int lasts(int, int)",
        "int bell(int, int)", "int ringer(int)", "int send(int, int)", "int told(int, int)",
        "int toll(int, int, int, int)", "int stop(int)", "int about(int, int)", "int heard(int, int)",
        "int count(int)", "int pass(int)", "int ends(int)", "int foresee(int, int)",
        "int choose(int, int, int)", "double mean()", "long digest()",
    };

    public static void main(String[] args) {
        Class<?> face = MuffledTolls.class;
        Check.isTrue("the class is public and final", face.getModifiers() == (Modifier.PUBLIC | Modifier.FINAL));
        Constructor<?>[] made = face.getDeclaredConstructors();
        boolean one = made.length == 1 && made[0].getParameterCount() == 0;
        Check.isTrue("one public constructor without parameters", one && Modifier.isPublic(made[0].getModifiers()));
        methods(face);
        for (Field field : face.getDeclaredFields()) {
            Check.isTrue("the field " + field.getName() + " is private", Modifier.isPrivate(field.getModifiers()));
        }
        for (Class<?> inside : face.getDeclaredClasses()) {
            int hidden = inside.getModifiers() & (Modifier.PUBLIC | Modifier.PROTECTED);
            boolean isStatic = Modifier.isStatic(inside.getModifiers());
            Check.isTrue(inside.getName() + " is hidden and static", hidden == 0 && isStatic);
        }
        Check.finish();
    }

    private static void methods(Class<?> face) {
        TreeSet<String> due = new TreeSet<>(Arrays.asList(FACE));
        TreeSet<String> names = new TreeSet<>();
        for (String method : FACE) {
            names.add(method.substring(method.indexOf(' ') + 1, method.indexOf('(')));
        }
        TreeSet<String> got = new TreeSet<>();
        for (Method method : face.getDeclaredMethods()) {
            if (Modifier.isPrivate(method.getModifiers())) {
                Check.isTrue(method.getName() + " has a name of its own", !names.contains(method.getName()));
            } else {
                Check.isTrue(method + " is no more than public", method.getModifiers() == Modifier.PUBLIC);
                got.add(signature(method));
            }
        }
        Check.isTrue("the methods are " + due + ", found " + got, got.equals(due));
    }

    private static String signature(Method method) {
        String types = Arrays.toString(method.getParameterTypes());
        return method.getReturnType() + " " + method.getName() + "(" + types.substring(1, types.length() - 1) + ")";
    }
}
