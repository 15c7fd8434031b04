import java.lang.reflect.Field;
import java.lang.reflect.Method;
import java.lang.reflect.Modifier;
import java.util.Arrays;
import java.util.TreeSet;

/** The class shows the document's face and nothing else. */
public final class FaceTest {
    private static final String[] METHODS = {
        "int at(int,int) A S",
        "int between(int,int) A S",
        "int count(int) A S",
        "int door(int,int,int) A S",
        "int line(int,int,int,int,int) A S",
        "int loose(int,int) A S",
        "int name(int,int) A S",
        "int nameOf(int) A S",
        "int neighbour(int,int) A S",
        "int overlap(int,int) A S",
        "int rings(int) A S",
        "int run() S",
        "int side(int,int,int,int) A S",
        "int sides(int,int) A S",
        "int size(int,int) A S",
        "int way(int,int) A S",
        "boolean move(int,int,int) A",
    };
    private static int wrong = 0;

    public static void main(String[] args) {
        Class<?> face = SpaceCycles.class;
        due("public final class", Modifier.isPublic(face.getModifiers()) && Modifier.isFinal(face.getModifiers()));
        due("one public constructor", face.getDeclaredConstructors().length == 1
                && Modifier.isPublic(face.getDeclaredConstructors()[0].getModifiers())
                && face.getDeclaredConstructors()[0].getParameterCount() == 0);
        methods(face);
        fields(face);
        for (Class<?> inside : face.getDeclaredClasses()) {
            due(inside.getName() + " is static", Modifier.isStatic(inside.getModifiers()));
            due(inside.getName() + " is not public",
                    (inside.getModifiers() & (Modifier.PUBLIC | Modifier.PROTECTED)) == 0);
        }
        due("NONE", SpaceCycles.NONE == -1);
        System.out.println(wrong == 0 ? "the face is as due" : wrong + " things are not as due");
        if (wrong != 0) System.exit(1);
    }

    private static void methods(Class<?> face) {
        TreeSet<String> shown = new TreeSet<>();
        TreeSet<String> names = new TreeSet<>();
        for (Method m : face.getDeclaredMethods()) {
            if (Modifier.isPrivate(m.getModifiers())) continue;
            due(m.getName() + " is public and no static one",
                    Modifier.isPublic(m.getModifiers()) && !Modifier.isStatic(m.getModifiers()));
            shown.add(written(m));
            names.add(m.getName());
        }
        due("methods " + shown, shown.equals(new TreeSet<>(Arrays.asList(METHODS))));
        for (Method m : face.getDeclaredMethods()) {
            due(m.getName() + " bears no public name",
                    !Modifier.isPrivate(m.getModifiers()) || !names.contains(m.getName()));
        }
    }

    private static String written(Method m) {
        StringBuilder text = new StringBuilder();
        text.append(m.getReturnType().getName()).append(' ').append(m.getName()).append('(');
        for (int k = 0; k < m.getParameterCount(); k++) {
            text.append(k == 0 ? "" : ",").append(m.getParameterTypes()[k].getName());
        }
        text.append(')');
        for (Class<?> thrown : m.getExceptionTypes()) {
            text.append(thrown == IllegalArgumentException.class ? " A"
                    : thrown == IllegalStateException.class ? " S" : " ?");
        }
        return text.toString();
    }

    private static void fields(Class<?> face) {
        for (Field f : face.getDeclaredFields()) {
            boolean isNone = f.getName().equals("NONE");
            due(f.getName() + " is hidden", Modifier.isPrivate(f.getModifiers()) != isNone);
            due(f.getName() + ": static fields are final",
                    !Modifier.isStatic(f.getModifiers()) || Modifier.isFinal(f.getModifiers()));
        }
    }

    private static void due(String what, boolean holds) {
        if (!holds) {
            wrong++;
            System.out.println("not so: " + what);
        }
    }
}
