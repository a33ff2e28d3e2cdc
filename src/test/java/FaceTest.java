import java.lang.reflect.Constructor;
import java.lang.reflect.Field;
import java.lang.reflect.Method;
import java.lang.reflect.Modifier;
import java.util.ArrayList;
import java.util.HashSet;
import java.util.List;
import java.util.Set;
import java.util.TreeSet;

/** The public face and the rules 1, 2, 11 and 12 of LANGUAGE.md that reflection can see. */
public final class FaceTest {
    private static final String FACE = "alone(int) best(int) come(int) could(int) drift(int) drinker(int,int) "
        + "fault() feed(int) given(int) go(int) goBack(int) goer(int,int) hang(int) hour(int) inn() judge() "
        + "keep(int) late(int) listen() logged(int,int) mistaken() most() muffled() noon() odds(int) quarter(int) "
        + "rain(int) round() seed(int) share(int) ship(int) signal(int) strikes(int) tear() told(int) "
        + "treat(int,int) turn(int,int) undo() vespers(int,int) was(int,int) when(int) widows(int) write(int,int)";

    public static void main(String[] args) {
        Checks.part("face");
        Class<?> face = BellRope.class;
        Checks.due(Modifier.isPublic(face.getModifiers()) && Modifier.isFinal(face.getModifiers()), "the class is not public and final");
        Set<String> methods = new TreeSet<>();
        for (Method m : face.getDeclaredMethods()) {
            if (Modifier.isPrivate(m.getModifiers()) || m.isSynthetic()) {
                continue;
            }
            Checks.due(Modifier.isPublic(m.getModifiers()) && m.getReturnType() == int.class, m + " is not of the face");
            methods.add(shape(m));
        }
        Checks.due(String.join(" ", methods).equals(FACE), "the face is " + methods);
        constants(face);
        Constructor<?>[] made = face.getDeclaredConstructors();
        Checks.due(made.length == 1 && Modifier.isPublic(made[0].getModifiers()) && made[0].getParameterCount() == 0, "the constructor is another one");
        classesInside(face, methods);
        Checks.end();
    }

    private static String shape(Method m) {
        List<String> types = new ArrayList<>();
        for (Class<?> type : m.getParameterTypes()) {
            types.add(type.getSimpleName());
        }
        return m.getName() + "(" + String.join(",", types) + ")";
    }

    private static void constants(Class<?> face) {
        Checks.due("NONE", BellRope.NONE, -1);
        Checks.due("UNKNOWN", BellRope.UNKNOWN, -1000000001);
        Checks.due("OUTSIDE", BellRope.OUTSIDE, -1000000002);
        Checks.due("NOT", BellRope.NOT, -1000000003);
        Checks.due("FULL", BellRope.FULL, -1000000004);
        Set<String> open = new TreeSet<>();
        for (Field f : face.getDeclaredFields()) {
            boolean isStatic = Modifier.isStatic(f.getModifiers());
            Checks.due(!isStatic || Modifier.isFinal(f.getModifiers()), f + " is static, but not final");
            if (!Modifier.isPrivate(f.getModifiers())) {
                open.add(f.getName());
                Checks.due(isStatic && Modifier.isPublic(f.getModifiers()), f + " is not of the face");
            }
        }
        Checks.due(open.equals(new TreeSet<>(Set.of("NONE", "UNKNOWN", "OUTSIDE", "NOT", "FULL"))), "constants are " + open);
    }

    private static void classesInside(Class<?> face, Set<String> shapes) {
        Set<String> names = new HashSet<>();
        for (String shape : shapes) {
            names.add(shape.substring(0, shape.indexOf('(')));
        }
        Class<?>[] inside = face.getDeclaredClasses();
        Checks.due(inside.length < 12, "there are " + inside.length + " classes inside");
        for (Class<?> c : inside) {
            Checks.due(Modifier.isStatic(c.getModifiers()) && !Modifier.isPublic(c.getModifiers()) && !Modifier.isProtected(c.getModifiers()), c + " is not static, or public");
            Checks.due(fieldsOf(c) <= 20, c + " has too many fields");
            for (Method m : c.getDeclaredMethods()) {
                Checks.due(!names.contains(m.getName()), m + " bears the name of a public one");
                Checks.due(m.getParameterCount() <= 7, m + " takes more than seven");
            }
        }
        for (Method m : face.getDeclaredMethods()) {
            Checks.due(Modifier.isPublic(m.getModifiers()) || !names.contains(m.getName()), m + " bears the name of a public one");
        }
        Checks.due(fieldsOf(face) <= 20, "the class has too many fields");
    }

    private static int fieldsOf(Class<?> c) {
        int many = 0;
        for (Field f : c.getDeclaredFields()) {
            if (!Modifier.isStatic(f.getModifiers())) {
                many++;
            }
        }
        return many;
    }
}
