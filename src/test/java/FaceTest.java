import java.lang.reflect.Constructor;
import java.lang.reflect.Field;
import java.lang.reflect.Method;
import java.lang.reflect.Modifier;
import java.util.Arrays;
import java.util.TreeSet;

/** The face is the document's, to the letter, and nothing else of the class can be seen. */
public final class FaceTest {
    private static final String[] FACE = {
        "int feed(int, int, int, int, int)", "boolean end(int)", "int tell()", "int fault()",
        "boolean size(int)", "int back(int, int)", "boolean weigh(int, int)", "int see(int, int, int)",
        "boolean set(int, int)", "int tick(int)", "int pack(int, int)", "boolean keep(int)",
        "int count(int)", "int of(int, int)", "int slot(int, int)", "int table(int, int)",
        "int share(int, int)", "int shareBits(int, int)", "int uneven(int)", "int evenest(int)",
        "int changed(int, int)", "int alike(int, int)", "int were(int, int, int, boolean)",
        "int roughest(int)", "int flow(int)", "int remembers(int, int, int)", "int flows(int, int)",
        "int flowAt(int, int)", "int astray(int, int)", "int idle(int, int)",
    };
    private static int wrong = 0;

    private static void check(boolean holds, String what) {
        if (!holds) {
            wrong++;
            System.out.println("not as due: " + what);
        }
    }

    private static String told(Method method) {
        StringBuilder text = new StringBuilder();
        text.append(method.getReturnType().getSimpleName()).append(' ').append(method.getName()).append('(');
        for (Class<?> type : method.getParameterTypes()) {
            text.append(text.charAt(text.length() - 1) == '(' ? "" : ", ").append(type.getSimpleName());
        }
        return text.append(')').toString();
    }

    public static void main(String[] args) {
        Class<FlowGates> face = FlowGates.class;
        check(Modifier.isPublic(face.getModifiers()) && Modifier.isFinal(face.getModifiers()), "public and final");
        TreeSet<String> seen = new TreeSet<>();
        TreeSet<String> names = new TreeSet<>();
        for (Method method : face.getDeclaredMethods()) {
            if (!Modifier.isPrivate(method.getModifiers())) {
                check(Modifier.isPublic(method.getModifiers()), "public " + method);
                check(!Modifier.isStatic(method.getModifiers()), "not static " + method);
                seen.add(told(method));
                names.add(method.getName());
            }
        }
        check(seen.equals(new TreeSet<>(Arrays.asList(FACE))), "the methods " + seen);
        checkHidden(face, names);
        Constructor<?>[] made = face.getDeclaredConstructors();
        check(made.length == 1 && made[0].getParameterCount() == 0, "one constructor");
        check(made.length == 1 && Modifier.isPublic(made[0].getModifiers()), "a public constructor");
        System.out.println(wrong == 0 ? "the face is as due" : wrong + " things are not as due");
        if (wrong != 0) {
            System.exit(1);
        }
    }

    private static void checkHidden(Class<?> face, TreeSet<String> names) {
        for (Field field : face.getDeclaredFields()) {
            boolean isNone = field.getName().equals("NONE");
            check(isNone || Modifier.isPrivate(field.getModifiers()), "private " + field);
        }
        for (Method method : face.getDeclaredMethods()) {
            boolean hidden = Modifier.isPrivate(method.getModifiers());
            check(!hidden || !names.contains(method.getName()), "a private method's name " + method);
        }
        for (Class<?> inside : face.getDeclaredClasses()) {
            check(Modifier.isStatic(inside.getModifiers()), "static " + inside);
            check(!Modifier.isPublic(inside.getModifiers()), "not public " + inside);
            for (Method method : inside.getDeclaredMethods()) {
                check(!names.contains(method.getName()), "a name of the face inside " + method);
            }
        }
    }
}
