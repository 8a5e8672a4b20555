import java.lang.reflect.Constructor;
import java.lang.reflect.Field;
import java.lang.reflect.Method;
import java.lang.reflect.Modifier;
import java.util.Set;
import java.util.TreeSet;

/** The class's face is the document's, and nothing of it is seen beside that (LANGUAGE.md, rules 1 and 5). */
public final class FaceTest {
    private static final Set<String> METHODS = Set.of(
        "write(int)", "wipe()", "fault()", "lay()", "man(int,int)", "home(int,int)", "told(int)",
        "toward(int,int,int,int)", "order(int,int)", "tie(int,boolean)", "swap(int,int)", "undo()",
        "tell(int,int)", "noRow()", "behind(int,int,int)", "strayed()", "bring(int,int,int,int)",
        "pairs(int)", "homeward(int)", "seen(int,int,int)", "forget()", "villages(int,int)",
        "strays(int)", "lean(int)", "storms(int,int,int,int,int)", "march(int,int,int)", "keep()",
        "back()", "count(int)");
    private static final Set<String> CONSTANTS = Set.of("BAD", "NO", "FULL", "NONE");

    public static void main(String[] args) {
        Class<?> face = BootsTurnHome.class;
        Check.holds("public and final", Modifier.isPublic(face.getModifiers()) && Modifier.isFinal(face.getModifiers()));
        constants();
        constructors(face);
        Set<String> names = methods(face);
        fields(face, true);
        for (Class<?> inside : face.getDeclaredClasses()) {
            Check.holds(inside + " is static", Modifier.isStatic(inside.getModifiers()));
            Check.holds(inside + " is not public", !Modifier.isPublic(inside.getModifiers()));
            for (Method method : inside.getDeclaredMethods()) {
                Check.holds(inside + " has no " + method.getName(), !names.contains(method.getName()));
            }
            fields(inside, false);
        }
        Check.finish("FaceTest");
    }

    private static void constants() {
        Check.due("BAD", BootsTurnHome.BAD, -1);
        Check.due("NO", BootsTurnHome.NO, -2);
        Check.due("FULL", BootsTurnHome.FULL, -3);
        Check.due("NONE", BootsTurnHome.NONE, -4);
    }

    private static void constructors(Class<?> face) {
        Constructor<?>[] constructors = face.getDeclaredConstructors();
        Check.due("constructors", constructors.length, 1);
        Check.due("its parameters", constructors[0].getParameterCount(), 0);
        Check.holds("it is public", Modifier.isPublic(constructors[0].getModifiers()));
    }

    private static Set<String> methods(Class<?> face) {
        Set<String> found = new TreeSet<>();
        Set<String> names = new TreeSet<>();
        for (Method method : face.getDeclaredMethods()) {
            if (Modifier.isPublic(method.getModifiers())) {
                found.add(signature(method));
                names.add(method.getName());
                Check.holds(method + " answers an int", method.getReturnType() == int.class);
            }
        }
        Check.holds("the public methods " + found, found.equals(METHODS));
        for (Method method : face.getDeclaredMethods()) {
            if (!Modifier.isPublic(method.getModifiers())) {
                Check.holds(method + " is private", Modifier.isPrivate(method.getModifiers()));
                Check.holds(method + " has a name of its own", !names.contains(method.getName()));
            }
        }
        return names;
    }

    private static String signature(Method method) {
        StringBuilder text = new StringBuilder(method.getName()).append('(');
        for (Class<?> type : method.getParameterTypes()) {
            text.append(text.charAt(text.length() - 1) == '(' ? "" : ",").append(type.getName());
        }
        return text.append(')').toString();
    }

    private static void fields(Class<?> type, boolean isFace) {
        for (Field field : type.getDeclaredFields()) {
            int modifiers = field.getModifiers();
            Check.holds(field + ": static ones are final", !Modifier.isStatic(modifiers) || Modifier.isFinal(modifiers));
            if (isFace) {
                Check.holds(field + " is seen only if told", Modifier.isPublic(modifiers)
                    ? CONSTANTS.contains(field.getName()) : Modifier.isPrivate(modifiers));
            }
        }
    }
}
