import java.lang.reflect.Constructor;
import java.lang.reflect.Field;
import java.lang.reflect.Method;
import java.lang.reflect.Modifier;
import java.util.Set;
import java.util.TreeSet;

/** The class has the document's face, and nothing else that can be seen from outside. */
public final class GraphCourierFace {
    private static final String BAD_ARGUMENT = " java.lang.IllegalArgumentException";
    private static final String BAD_STATE = " java.lang.IllegalStateException";
    private static final String[] DUE = {
        "final int DATE = 8", "final int ARRAY = 9", "final int OBJECT = 10", "final int BYTES = 12",
        "GraphCourier()",
        "long wide(long)" + BAD_STATE,
        "long date(long)" + BAD_STATE,
        "long bytes(long, int)" + BAD_ARGUMENT + BAD_STATE,
        "long array()" + BAD_STATE,
        "int traits(long, boolean, long, long, long)" + BAD_ARGUMENT + BAD_STATE,
        "long object(int)" + BAD_ARGUMENT + BAD_STATE,
        "int append(int, long)" + BAD_ARGUMENT + BAD_STATE,
        "void set(int, int, long)" + BAD_ARGUMENT,
        "int put(int, long, long)" + BAD_ARGUMENT + BAD_STATE,
        "boolean allow(long)",
        "int encode(long)" + BAD_ARGUMENT + BAD_STATE,
        "long decode()" + BAD_ARGUMENT,
        "int fault()", "int size()", "int byteAt(int)", "boolean alter(int, int)", "boolean cut(int)",
        "int things()", "int kind(int)", "int count(int)", "long item(int, int)", "int pairs(int)",
        "long pair(int, int, boolean)", "int traitsOf(int)", "long bits(int)", "boolean same(long, long)",
        "void clear()"};

    private static boolean canBeSeen(int modifiers, boolean made) {
        return !Modifier.isPrivate(modifiers) && !made;
    }

    private static String parameters(Class<?>[] types) {
        StringBuilder all = new StringBuilder("(");
        for (Class<?> type : types) {
            all.append(all.length() > 1 ? ", " : "").append(type.getName());
        }
        return all.append(")").toString();
    }

    private static String refusals(Class<?>[] types) {
        StringBuilder all = new StringBuilder();
        for (Class<?> type : types) {
            all.append(" ").append(type.getName());
        }
        return all.toString();
    }

    private static Set<String> face() throws IllegalAccessException {
        Set<String> seen = new TreeSet<>();
        for (Field field : GraphCourier.class.getDeclaredFields()) {
            if (canBeSeen(field.getModifiers(), field.isSynthetic())) {
                seen.add("final int " + field.getName() + " = " + field.getInt(null));
            }
        }
        for (Constructor<?> maker : GraphCourier.class.getDeclaredConstructors()) {
            if (canBeSeen(maker.getModifiers(), maker.isSynthetic())) {
                seen.add(maker.getName() + parameters(maker.getParameterTypes()) + refusals(maker.getExceptionTypes()));
            }
        }
        for (Method method : GraphCourier.class.getDeclaredMethods()) {
            if (canBeSeen(method.getModifiers(), method.isSynthetic())) {
                seen.add(method.getReturnType().getName() + " " + method.getName()
                    + parameters(method.getParameterTypes()) + refusals(method.getExceptionTypes()));
            }
        }
        return seen;
    }

    /** Classes inside are static, and not to be seen from outside. */
    private static boolean insideIsHidden() {
        for (Class<?> inside : GraphCourier.class.getDeclaredClasses()) {
            int modifiers = inside.getModifiers();
            if (!Modifier.isStatic(modifiers) || Modifier.isPublic(modifiers) || Modifier.isProtected(modifiers)) {
                return false;
            }
        }
        return true;
    }

    public static void main(String[] args) throws IllegalAccessException {
        Set<String> due = new TreeSet<>(Set.of(DUE));
        Set<String> seen = face();
        boolean right = seen.equals(due) && Modifier.isFinal(GraphCourier.class.getModifiers())
            && Modifier.isPublic(GraphCourier.class.getModifiers()) && insideIsHidden();
        System.out.println(right ? "the face is as due" : "the face is " + seen + ", due is " + due);
        if (!right) {
            System.exit(1);
        }
    }
}
