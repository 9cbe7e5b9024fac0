import java.lang.reflect.Constructor;
import java.lang.reflect.Field;
import java.lang.reflect.Method;
import java.lang.reflect.Modifier;
import java.util.Arrays;
import java.util.Set;
import java.util.TreeSet;

/** The public face is the document's, with nothing added (rule 1 of LANGUAGE.md). */
public final class FaceTest {
    private static final String[] FACE = {
        "sheet int int int", "set int int int", "copy int int int int int", "drop int",
        "bears int int int int int", "staff int int int int", "look int", "safe int int int",
        "feed long int", "read", "fault", "told int int", "leg int int int int", "choose int int int", "at int int",
        "load int int int", "all int", "known int int int", "split int", "settle int", "harmless int int", "swap",
        "airline int int", "kind int", "as int int", "ask int int", "trace int", "count int", "status"
    };

    public static void main(String[] args) {
        Checks checks = new Checks();
        checks.due("NONE", RoomsOfAir.NONE, -1000000);
        checks.due("BAD", RoomsOfAir.BAD, -1000001);
        checks.due("STATE", RoomsOfAir.STATE, -1000002);
        checks.due("FULL", RoomsOfAir.FULL, -1000003);
        checks.holds("the class is public and final",
            Modifier.isPublic(RoomsOfAir.class.getModifiers()) && Modifier.isFinal(RoomsOfAir.class.getModifiers()));
        methods(checks);
        constructors(checks);
        fields(checks);
        classesInside(checks);
        checks.finish();
    }

    private static void methods(Checks checks) {
        Set<String> wanted = new TreeSet<>(Arrays.asList(FACE));
        Set<String> there = new TreeSet<>();
        Set<String> publicNames = new TreeSet<>();
        for (Method method : RoomsOfAir.class.getDeclaredMethods()) {
            if (!Modifier.isPrivate(method.getModifiers())) {
                checks.holds(method + " is public", Modifier.isPublic(method.getModifiers()));
                checks.holds(method + " is no static one", !Modifier.isStatic(method.getModifiers()));
                checks.holds(method + " answers an int", method.getReturnType() == int.class);
                there.add(shapeOf(method));
                publicNames.add(method.getName());
            }
        }
        checks.holds("methods " + there + " are " + wanted, there.equals(wanted));
        hiddenNames(checks, RoomsOfAir.class, publicNames);
        for (Class<?> inside : RoomsOfAir.class.getDeclaredClasses()) {
            hiddenNames(checks, inside, publicNames);
        }
    }

    private static void hiddenNames(Checks checks, Class<?> type, Set<String> publicNames) {
        for (Method method : type.getDeclaredMethods()) {
            boolean isHidden = type != RoomsOfAir.class || Modifier.isPrivate(method.getModifiers());
            checks.holds(method + " has a name of its own", !isHidden || !publicNames.contains(method.getName()));
        }
    }

    private static String shapeOf(Method method) {
        StringBuilder shape = new StringBuilder(method.getName());
        for (Class<?> type : method.getParameterTypes()) {
            shape.append(' ').append(type.getName());
        }
        return shape.toString();
    }

    private static void constructors(Checks checks) {
        Constructor<?>[] there = RoomsOfAir.class.getDeclaredConstructors();
        checks.due("constructors", there.length, 1);
        checks.due("parameters of the constructor", there[0].getParameterCount(), 0);
        checks.holds("the constructor is public", Modifier.isPublic(there[0].getModifiers()));
    }

    private static void fields(Checks checks) {
        int visible = 0;
        for (Field field : RoomsOfAir.class.getDeclaredFields()) {
            boolean isStatic = Modifier.isStatic(field.getModifiers());
            checks.holds(field + ": static ones are final", !isStatic || Modifier.isFinal(field.getModifiers()));
            visible += Modifier.isPrivate(field.getModifiers()) ? 0 : 1;
        }
        checks.due("fields that are not private", visible, 4);
    }

    private static void classesInside(Checks checks) {
        for (Class<?> inside : RoomsOfAir.class.getDeclaredClasses()) {
            checks.holds(inside + " is static", Modifier.isStatic(inside.getModifiers()));
            boolean isShown = Modifier.isPublic(inside.getModifiers()) || Modifier.isProtected(inside.getModifiers());
            checks.holds(inside + " is not shown", !isShown);
        }
        checks.holds("some twelve classes", RoomsOfAir.class.getDeclaredClasses().length < 12);
    }
}
