import java.lang.reflect.Constructor;
import java.lang.reflect.Field;
import java.lang.reflect.Method;
import java.lang.reflect.Modifier;
import java.util.Arrays;
import java.util.Set;
import java.util.TreeSet;

/** The class has the document's face and no more. */
public final class FaceTest {
    private static final String[] FACE = {
        "int make(int,int,int)", "int lay(int,int)", "int places(int)", "int kind(int)", "int tag(int)",
        "int load(int)", "int put(int,int,int,int,int)", "int putBoxed(int,int,int,int,int)",
        "int putThing(int,int,int)", "long number(int,int,int)", "double point(int,int,int)",
        "int what(int,int)", "int take(int,int,int)", "int copy(int,int)", "int gather(int,int,int)",
        "int scatter(int,int,int)", "int merge(int,int,int)", "int sort(int)", "int turn(int,int)",
        "long sum(int)", "double total(int)", "int find(int,int,int,int,int)", "int alike(int,int)", "int why()"
    };

    public static void main(String[] args) {
        Due due = new Due();
        due.is("public", Modifier.isPublic(ColumnHouse.class.getModifiers()) ? 1 : 0, 1);
        due.is("final", Modifier.isFinal(ColumnHouse.class.getModifiers()) ? 1 : 0, 1);
        due.text("the methods", seenMethods().toString(), new TreeSet<>(Arrays.asList(FACE)).toString());
        seenConstructors(due);
        privateFields(due);
        privateNames(due);
        due.end();
    }

    private static Set<String> seenMethods() {
        Set<String> seen = new TreeSet<>();
        for (Method method : ColumnHouse.class.getDeclaredMethods()) {
            if (!Modifier.isPrivate(method.getModifiers())) {
                seen.add(method.getReturnType().getName() + " " + method.getName() + types(method.getParameterTypes()));
            }
        }
        return seen;
    }

    private static String types(Class<?>[] types) {
        StringBuilder text = new StringBuilder("(");
        for (int k = 0; k < types.length; k++) {
            text.append(k == 0 ? "" : ",").append(types[k].getName());
        }
        return text.append(")").toString();
    }

    private static void seenConstructors(Due due) {
        Constructor<?>[] all = ColumnHouse.class.getDeclaredConstructors();
        due.is("constructors", all.length, 1);
        due.is("its parameters", all[0].getParameterCount(), 0);
        due.is("it is public", Modifier.isPublic(all[0].getModifiers()) ? 1 : 0, 1);
    }

    private static void privateFields(Due due) {
        for (Field field : ColumnHouse.class.getDeclaredFields()) {
            int bits = field.getModifiers();
            due.is("private " + field.getName(), Modifier.isPrivate(bits) ? 1 : 0, 1);
            due.is("no changing static " + field.getName(),
                    Modifier.isStatic(bits) && !Modifier.isFinal(bits) ? 1 : 0, 0);
        }
    }

    private static void privateNames(Due due) {
        for (Method method : ColumnHouse.class.getDeclaredMethods()) {
            if (Modifier.isPrivate(method.getModifiers())) {
                due.is("a private " + method.getName(), inFace(method), 0);
            }
        }
        for (Class<?> nested : ColumnHouse.class.getDeclaredClasses()) {
            for (Method method : nested.getDeclaredMethods()) {
                due.is(method.getName() + " in " + nested.getName(), inFace(method), 0);
            }
        }
    }

    private static int inFace(Method method) {
        for (String face : FACE) {
            if (face.contains(" " + method.getName() + "(")) {
                return 1;
            }
        }
        return 0;
    }
}
