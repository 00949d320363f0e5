import java.lang.reflect.Constructor;
import java.lang.reflect.Field;
import java.lang.reflect.Method;
import java.lang.reflect.Modifier;
import java.util.Arrays;
import java.util.List;
import java.util.Set;
import java.util.TreeSet;

/** The class has the document's face, and nothing else that others could see (LANGUAGE.md, rules 1, 5 and 11). */
public final class FaceTest {
    private static final List<String> METHODS = List.of(
        "int enlist(int, int)", "int promote(int)", "int demote(int)", "long toil(int, int)", "long pay(int, int)",
        "int climb(int, int)", "int heed(int, int)", "int race(int, int, int)", "long due(int, int, int)",
        "int feed(int, int)", "long watch(int, int)", "int line(int, int, int, int, int)", "long sail(int)",
        "int rest(int)", "long told(int, int)", "int note(int)", "int notes()");
    private static int wrong = 0;

    public static void main(String[] args) {
        Class<?> face = WatchBill.class;
        is("the class is public and final", Modifier.isPublic(face.getModifiers()) && Modifier.isFinal(face.getModifiers()));
        is("the class extends and implements nothing and has no package",
            face.getSuperclass() == Object.class && face.getInterfaces().length == 0 && face.getPackageName().isEmpty());
        methods(face);
        fields(face);
        sizes(face);
        Constructor<?>[] constructors = face.getDeclaredConstructors();
        is("one public constructor without parameters", constructors.length == 1
            && Modifier.isPublic(constructors[0].getModifiers()) && constructors[0].getParameterCount() == 0);
        Class<?>[] inside = face.getDeclaredClasses();
        is("at most twelve classes", inside.length + 1 <= 12);
        for (Class<?> nested : inside) classInside(nested);
        System.out.println(wrong == 0 ? "the face is as due" : wrong + " things are not as due");
        if (wrong != 0) System.exit(1);
    }

    private static void is(String what, boolean holds) {
        if (!holds) {
            wrong++;
            System.out.println("not so: " + what);
        }
    }

    private static void methods(Class<?> face) {
        Set<String> seen = new TreeSet<>();
        for (Method method : face.getDeclaredMethods()) {
            if (Modifier.isPublic(method.getModifiers())) {
                seen.add(textOf(method));
                is(method.getName() + " is no static method", !Modifier.isStatic(method.getModifiers()));
            } else {
                is(method.getName() + " is private", Modifier.isPrivate(method.getModifiers()));
                is(method.getName() + " has no public method's name", !isFaceName(method.getName()));
            }
        }
        is("the public methods are the document's: " + seen, seen.equals(new TreeSet<>(METHODS)));
    }

    private static void fields(Class<?> face) {
        for (Field field : face.getDeclaredFields()) {
            int modifiers = field.getModifiers();
            boolean isRefused = field.getName().equals("REFUSED") && field.getType() == int.class;
            is(field.getName() + " is as visible as it should be",
                isRefused ? Modifier.isPublic(modifiers) : Modifier.isPrivate(modifiers));
            is(field.getName() + " is final, if static", !Modifier.isStatic(modifiers) || Modifier.isFinal(modifiers));
            is(field.getName() + " is a plain constant, if static", !Modifier.isStatic(modifiers) || field.getType() == int.class);
        }
    }

    private static void sizes(Class<?> any) {
        for (Method method : any.getDeclaredMethods()) {
            is(any.getName() + "'s " + method.getName() + " has at most seven parameters", method.getParameterCount() <= 7);
        }
        int fields = 0;
        for (Field field : any.getDeclaredFields()) {
            if (!Modifier.isStatic(field.getModifiers())) fields++;
        }
        is(any.getName() + " has at most twenty fields", fields <= 20);
    }

    private static void classInside(Class<?> nested) {
        sizes(nested);
        is(nested.getName() + " has no classes inside", nested.getDeclaredClasses().length == 0);
        int modifiers = nested.getModifiers();
        is(nested.getName() + " is static", Modifier.isStatic(modifiers));
        is(nested.getName() + " is not public or protected", !Modifier.isPublic(modifiers) && !Modifier.isProtected(modifiers));
        for (Method method : nested.getDeclaredMethods()) {
            is(nested.getName() + "'s " + method.getName() + " has no public method's name", !isFaceName(method.getName()));
        }
        for (Field field : nested.getDeclaredFields()) {
            is(nested.getName() + "'s " + field.getName() + " is not static", !Modifier.isStatic(field.getModifiers()));
        }
    }

    private static boolean isFaceName(String name) {
        for (String method : METHODS) {
            if (method.contains(" " + name + "(")) return true;
        }
        return false;
    }

    private static String textOf(Method method) {
        String parameters = Arrays.toString(method.getParameterTypes());
        return method.getReturnType() + " " + method.getName() + "(" + parameters.substring(1, parameters.length() - 1) + ")";
    }
}
