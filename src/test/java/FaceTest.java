import java.lang.reflect.Constructor;
import java.lang.reflect.Field;
import java.lang.reflect.Method;
import java.lang.reflect.Modifier;
import java.util.Arrays;
import java.util.Set;
import java.util.TreeSet;

/** The public face is the document's, and nothing else of the class can be seen. */
public final class FaceTest {
    public static void main(String[] args) {
        Set<String> due = new TreeSet<>(Arrays.asList(
            "NONE = -1", "BAD = -2", "FULL = -3", "FrameWriter()",
            "int type(int, boolean)", "int local(int, int)", "int op(int, int)", "int handler(int, int, int, int)", "int make()",
            "int fault()", "int state(int, int)", "int frame(int)", "int packed()", "int out(int)", "int plant(int, int, int)",
            "int judge()", "int joined(int, int)", "int goes(int, int)", "int told(int)"));
        Set<String> got = new TreeSet<>();
        for (Field field : FrameWriter.class.getDeclaredFields()) {
            if (!Modifier.isPrivate(field.getModifiers())) {
                got.add(field.getName() + " = " + valueOf(field));
            }
        }
        for (Constructor<?> constructor : FrameWriter.class.getDeclaredConstructors()) {
            got.add("FrameWriter" + parameters(constructor.getParameterTypes()));
        }
        for (Method method : FrameWriter.class.getDeclaredMethods()) {
            if (!Modifier.isPrivate(method.getModifiers())) {
                got.add(method.getReturnType() + " " + method.getName() + parameters(method.getParameterTypes()));
            }
        }
        boolean fine = got.equals(due) && Modifier.isFinal(FrameWriter.class.getModifiers())
            && Modifier.isPublic(FrameWriter.class.getModifiers());
        System.out.println(fine ? "the face is as due" : "the face is " + got + ", due is " + due);
        if (!fine) {
            System.exit(1);
        }
    }

    private static String valueOf(Field field) {
        int constant = Modifier.PUBLIC | Modifier.STATIC | Modifier.FINAL;
        try {
            return field.getModifiers() == constant && field.getType() == int.class ? "" + field.getInt(null) : "no constant";
        } catch (IllegalAccessException e) {
            return "not to be seen";
        }
    }

    private static String parameters(Class<?>[] types) {
        StringBuilder text = new StringBuilder("(");
        for (Class<?> type : types) {
            text.append(text.length() > 1 ? ", " : "").append(type);
        }
        return text.append(")").toString();
    }
}
