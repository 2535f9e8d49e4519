import java.lang.reflect.Field;
import java.lang.reflect.Method;
import java.lang.reflect.Modifier;
import java.util.Arrays;
import java.util.Set;
import java.util.TreeSet;

/** The face of the class: just the members that the document names, and the rules for the others. */
public final class FaceTest {
    private static final String[] FACE = {
        "int sign(int)", "boolean end(int)", "int boats()", "int rule()",
        "int boat(int,int) java.util.NoSuchElementException", "int at(int) java.util.NoSuchElementException",
        "int sheet(int,int,int,int)", "int days(int)", "int scratches(int)", "int rests(int)",
        "int paces(int,int)", "int gap(int)", "int strokes(int)", "int week()", "int undo()", "int race()",
        "int lies(int,int)", "int over()", "int closest(int)", "int later(int,int)", "int head(int)",
        "int bumps(int,int)", "int blades(int)", "int round()", "int sets()", "int orders(int)",
        "int best(int,int)", "int soonest()", "int crossed()", "int chart()", "int spurs(int)", "int calm()",
        "int differ(int,int)", "int helps(int,int)", "int heard(int,int)", "int forget()", "int fits()",
        "int asks()", "int likely(int,int)", "int pulls(int,int)", "int law()", "int crews(int)",
        "int years(int,int)", "boolean keep(int)", "boolean again(int)", "int count(int)",
        "long row(int) java.util.NoSuchElementException",
    };

    public static void main(String[] args) {
        Check check = new Check("face");
        Class<?> river = BumpsRiver.class;
        check.due("public and final", Modifier.toString(river.getModifiers()), "public final");
        check.due("public constructors", river.getConstructors().length, 1);
        check.due("all constructors", river.getDeclaredConstructors().length, 1);

        Set<String> face = new TreeSet<>();
        Set<String> names = new TreeSet<>();
        for (Method method : river.getDeclaredMethods()) {
            if (!Modifier.isPrivate(method.getModifiers())) {
                face.add(told(method));
                names.add(method.getName());
            }
        }
        check.due("the face", face.toString(), new TreeSet<>(Arrays.asList(FACE)).toString());
        for (Method method : river.getDeclaredMethods()) {
            if (Modifier.isPrivate(method.getModifiers())) {
                check.due("no face's name: " + method.getName(), names.contains(method.getName()), false);
            }
        }
        for (Field field : river.getDeclaredFields()) {
            if (!Modifier.isPrivate(field.getModifiers())) {
                check.due("a field that is seen", field.getName(), "NONE");
            }
        }
        for (Class<?> inside : river.getDeclaredClasses()) {
            checkInside(check, inside, names);
        }
        check.due("some twelve classes", river.getDeclaredClasses().length <= 12, true);
        check.finish();
    }

    private static void checkInside(Check check, Class<?> inside, Set<String> names) {
        String name = inside.getSimpleName();
        check.due(name + " is static", Modifier.isStatic(inside.getModifiers()), true);
        int fields = 0;
        for (Field field : inside.getDeclaredFields()) {
            boolean isStatic = Modifier.isStatic(field.getModifiers());
            fields += isStatic ? 0 : 1;
            check.due(name + "." + field.getName() + " is no static state",
                !isStatic || Modifier.isFinal(field.getModifiers()), true);
        }
        check.due(name + " has some twenty fields", fields <= 20, true);
        for (Method method : inside.getDeclaredMethods()) {
            check.due(name + "." + method.getName() + " bears no face's name", names.contains(method.getName()), false);
            check.due(name + "." + method.getName() + " takes seven at most", method.getParameterCount() <= 7, true);
        }
    }

    private static String told(Method method) {
        StringBuilder text = new StringBuilder();
        text.append(method.getReturnType()).append(' ').append(method.getName()).append('(');
        for (int i = 0; i < method.getParameterCount(); i++) {
            text.append(i > 0 ? "," : "").append(method.getParameterTypes()[i]);
        }
        text.append(')');
        for (Class<?> thrown : method.getExceptionTypes()) {
            text.append(' ').append(thrown.getName());
        }
        return text.toString();
    }
}
