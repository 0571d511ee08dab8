import java.lang.reflect.Constructor;
import java.lang.reflect.Field;
import java.lang.reflect.Method;
import java.lang.reflect.Modifier;
import java.util.TreeSet;

/** The public face, member by member. */
public final class FaceTest {
    private static final String AIOOBE = " throws java.lang.ArrayIndexOutOfBoundsException";
    private static final String[] METHODS = {
        "int feed(int,long)", "int read()", "int fault(int)", "int manner(int)", "int find()",
        "int node(int,int)" + AIOOBE, "int arc(int,int)", "int kind(int)", "int head(int,int)" + AIOOBE,
        "int value(int,int) throws java.lang.NullPointerException,java.lang.ClassCastException",
        "int sign(int,int,int) throws java.lang.NullPointerException,java.lang.ClassCastException,"
            + "java.lang.ArrayIndexOutOfBoundsException",
        "int comment(int,int)" + AIOOBE, "int print()", "int out(int)" + AIOOBE, "int about(int)",
    };

    public static void main(String[] args) {
        Checks c = new Checks("FaceTest");
        c.same("NONE", GraphTexts.NONE, -1);
        c.same("UNKNOWN", GraphTexts.UNKNOWN, -101);
        c.same("OUTSIDE", GraphTexts.OUTSIDE, -102);
        c.same("STATE", GraphTexts.STATE, -103);
        c.same("FULL", GraphTexts.FULL, -104);
        c.same("the class", Modifier.toString(GraphTexts.class.getModifiers()), "public final");

        TreeSet<String> constants = new TreeSet<>();
        for (Field f : GraphTexts.class.getDeclaredFields()) {
            if (!Modifier.isPrivate(f.getModifiers())) {
                constants.add(f.toGenericString().replace("GraphTexts.", ""));
            }
        }
        c.same("constants", constants.toString(), "[public static final int FULL, public static final int NONE, "
            + "public static final int OUTSIDE, public static final int STATE, public static final int UNKNOWN]");

        for (Constructor<?> k : GraphTexts.class.getDeclaredConstructors()) {
            c.same("constructor", k.toGenericString(), "public GraphTexts()");
        }

        TreeSet<String> due = new TreeSet<>();
        for (String method : METHODS) {
            due.add("public " + method);
        }
        TreeSet<String> got = new TreeSet<>();
        TreeSet<String> hidden = new TreeSet<>();
        for (Method m : GraphTexts.class.getDeclaredMethods()) {
            if (Modifier.isPrivate(m.getModifiers())) {
                hidden.add(m.getName());
            } else {
                got.add(m.toGenericString().replace("GraphTexts.", ""));
            }
        }
        c.same("methods", got.toString(), due.toString());
        for (String method : METHODS) {
            String name = method.substring(4, method.indexOf('('));
            c.same("private methods named " + name, hidden.contains(name) ? 1 : 0, 0);
        }
        c.end();
    }
}
