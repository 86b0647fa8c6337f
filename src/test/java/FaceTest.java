import java.lang.reflect.Constructor;
import java.lang.reflect.Field;
import java.lang.reflect.Member;
import java.lang.reflect.Method;
import java.lang.reflect.Modifier;
import java.util.Arrays;
import java.util.Set;
import java.util.TreeSet;

/** The public face is the document's, and nothing else is seen from outside. */
public final class FaceTest {
    private static final String[] METHODS = {
        "int door(int,int)", "int doors(int,int,int)", "int child(int,int)", "int mend(int,int,int)", "int of(int,int)",
        "int feed(int)", "int law()", "int worth(int,int)", "int whose(int)", "int all(int)", "int giving(int,int)",
        "int bestRule(int)", "int fairest(int)", "int envyFree()", "int swap(int)", "int swaps(int,int)", "int big(int,int)",
        "int away(int,int)", "int gather(int,int)", "int waits(int,int)", "int atFive(int,int,int,int)",
        "int guard(int,int,int,int)", "int judge(int,int)", "int byWhat(int)", "int second(int,int)", "int pairs(int,int)",
        "int drawn(int,int,int)", "int day()", "int open(int,int)", "int forgotten()", "int led(int)", "int image()",
        "int back()", "int undo()", "int redo()", "int body(int)", "int act(int,int,int)", "int trace(int)",
        "int keep(int,int)", "int row(int,int,int)", "int put(int,int,long)", "long element(int,int)",
        "int shift(int,int,int,int,int)", "int taken(int,int)", "int count(int)"
    };

    private static String form(Method m) {
        StringBuilder form = new StringBuilder(m.getReturnType().getName()).append(' ').append(m.getName()).append('(');
        for (int i = 0; i < m.getParameterCount(); i++) {
            form.append(i > 0 ? "," : "").append(m.getParameterTypes()[i].getName());
        }
        return form.append(')').toString();
    }

    private static boolean isHidden(Member m) {
        return Modifier.isPrivate(m.getModifiers()) || m.isSynthetic();
    }

    public static void main(String[] args) throws Exception {
        Due t = new Due();
        Class<?> face = DoorsForThree.class;
        t.due("final, public", Modifier.isFinal(face.getModifiers()) && Modifier.isPublic(face.getModifiers()));
        t.due("no package", face.getPackageName().isEmpty());

        Set<String> methods = new TreeSet<>();
        for (Method m : face.getDeclaredMethods()) {
            if (Modifier.isPublic(m.getModifiers())) {
                methods.add(form(m));
                t.due(form(m) + " is of the object and throws nothing",
                        !Modifier.isStatic(m.getModifiers()) && m.getExceptionTypes().length == 0);
            } else {
                t.due(form(m) + " is private", isHidden(m));
            }
        }
        Set<String> want = new TreeSet<>(Arrays.asList(METHODS));
        t.due("methods " + methods + " as " + want, methods.equals(want));

        Constructor<?>[] constructors = face.getDeclaredConstructors();
        t.due("one constructor", constructors.length, 1);
        t.due("a public one without parameters",
                Modifier.isPublic(constructors[0].getModifiers()) && constructors[0].getParameterCount() == 0);

        Set<String> constants = new TreeSet<>();
        for (Field f : face.getDeclaredFields()) {
            if (!isHidden(f)) {
                constants.add(Modifier.toString(f.getModifiers()) + " " + f.getType() + " " + f.getName() + " " + f.get(null));
            }
        }
        Set<String> due = new TreeSet<>(Arrays.asList("public static final int BAD -1", "public static final int NOT -2",
                "public static final int FULL -3", "public static final int STATE -5", "public static final int VOID -2000000000"));
        t.due("constants " + constants, constants.equals(due));

        Set<String> names = new TreeSet<>();
        for (String form : METHODS) {
            names.add(form.substring(form.indexOf(' ') + 1, form.indexOf('(')));
        }
        for (Method m : face.getDeclaredMethods()) {
            t.due(m + " bears no public one's name", Modifier.isPublic(m.getModifiers()) || !names.contains(m.getName()));
        }
        Class<?>[] inside = face.getDeclaredClasses();
        t.due("at most twelve classes", inside.length <= 11);
        for (Class<?> c : inside) {
            t.due(c + " is static and not public", Modifier.isStatic(c.getModifiers()) && !Modifier.isPublic(c.getModifiers()));
            long fields = Arrays.stream(c.getDeclaredFields()).filter(f -> !Modifier.isStatic(f.getModifiers())).count();
            t.due(c + " has at most twenty fields", fields <= 20);
            for (Method m : c.getDeclaredMethods()) {
                t.due(c + "." + m.getName() + " has no name of the face", !names.contains(m.getName()));
                t.due(c + "." + m.getName() + " takes at most seven", m.getParameterCount() <= 7);
            }
        }
        t.end();
    }
}
