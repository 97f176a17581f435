import java.lang.reflect.Constructor;
import java.lang.reflect.Field;
import java.lang.reflect.Method;
import java.lang.reflect.Modifier;
import java.util.ArrayList;
import java.util.Arrays;
import java.util.List;
import java.util.TreeSet;

/** The face of the class: the document's methods and constants with their types and exceptions, and no others. */
public final class FaceTest {
    private static final String[] METHODS = {
        "int type(long,int) IllegalArgumentException IllegalStateException",
        "int wipe()",
        "int fault()",
        "int code() IllegalStateException",
        "int contraction(int,int,int,int,int) IndexOutOfBoundsException IllegalArgumentException IllegalStateException",
        "int division() IllegalArgumentException IllegalStateException",
        "int size(int,int) IndexOutOfBoundsException IllegalArgumentException IllegalStateException",
        "int cell(int,int,int) IndexOutOfBoundsException IllegalArgumentException IllegalStateException",
        "boolean isMarked(int,int) IndexOutOfBoundsException IllegalArgumentException IllegalStateException",
        "int least(int,int) IndexOutOfBoundsException IllegalArgumentException IllegalStateException",
        "long ways(int,int) IndexOutOfBoundsException IllegalArgumentException IllegalStateException",
        "long readings(int,int) IndexOutOfBoundsException IllegalArgumentException IllegalStateException",
        "int formulaFault()",
        "int formulaCells(int) IllegalArgumentException IllegalStateException",
        "int formulaCell(int,int) IllegalArgumentException IndexOutOfBoundsException IllegalStateException",
        "boolean isReadBack(int) IllegalArgumentException IllegalStateException",
        "int book(int,int,int,int,boolean) IndexOutOfBoundsException IllegalArgumentException IllegalStateException",
        "int add(int) IndexOutOfBoundsException IllegalArgumentException IllegalStateException",
        "int word(int,int,int) IndexOutOfBoundsException IllegalArgumentException",
        "int ofBook(int,int) IndexOutOfBoundsException IllegalArgumentException",
        "int at(int,int,int,int) IndexOutOfBoundsException",
        "int renew(int,int,int) IndexOutOfBoundsException IllegalArgumentException",
        "int emboss(int,int) IndexOutOfBoundsException IllegalStateException",
        "int felt(int,int,int,int) IndexOutOfBoundsException",
        "int ofCopy(int,int) IndexOutOfBoundsException IllegalArgumentException",
        "int sheets()",
        "int reader(int) IllegalArgumentException IllegalStateException",
        "int teach(int,int,int) IndexOutOfBoundsException",
        "int unknown(int,int) IndexOutOfBoundsException",
        "int wish(int,int) IndexOutOfBoundsException IllegalStateException",
        "int secret(int,int,int) IndexOutOfBoundsException IllegalArgumentException",
        "int pass(int) IllegalArgumentException IllegalStateException",
        "int day()",
        "int giveBack(int,int) IndexOutOfBoundsException IllegalStateException",
        "int ahead(int,int) IndexOutOfBoundsException",
        "int late(int) IndexOutOfBoundsException"
    };
    private static final String[] CONSTANTS = {"NONE=-1", "ANY=0", "WHOLE=1", "BEGINNING=2", "MIDDLE=3", "END=4"};

    private static int wrong = 0;

    public static void main(String[] args) throws Exception {
        Class<?> face = Touchpress.class;
        due("the class is public and final", Modifier.isPublic(face.getModifiers()) && Modifier.isFinal(face.getModifiers()));
        methods(face);
        constants(face);
        for (Constructor<?> c : face.getDeclaredConstructors()) {
            due("one public constructor", Modifier.isPublic(c.getModifiers()) && c.getParameterCount() == 0);
        }
        for (Class<?> inner : face.getDeclaredClasses()) {
            due(inner + " is static and not open", Modifier.isStatic(inner.getModifiers())
                && !Modifier.isPublic(inner.getModifiers()) && !Modifier.isProtected(inner.getModifiers()));
        }
        System.out.println(wrong == 0 ? "the face is that of the document" : wrong + " are not as due");
        if (wrong != 0) {
            System.exit(1);
        }
    }

    private static void due(String what, boolean isSo) {
        if (!isSo) {
            wrong++;
            System.out.println("not so: " + what);
        }
    }

    private static void methods(Class<?> face) {
        TreeSet<String> due = new TreeSet<>(Arrays.asList(METHODS));
        TreeSet<String> names = new TreeSet<>();
        for (Method m : face.getDeclaredMethods()) {
            if (Modifier.isPublic(m.getModifiers())) {
                due("the document has " + told(m), due.remove(told(m)));
                due("is no static method: " + m, !Modifier.isStatic(m.getModifiers()));
                names.add(m.getName());
            }
        }
        due("all are there: " + due, due.isEmpty());
        List<Method> others = new ArrayList<>(Arrays.asList(face.getDeclaredMethods()));
        for (Class<?> inner : face.getDeclaredClasses()) {
            others.addAll(Arrays.asList(inner.getDeclaredMethods()));
        }
        for (Method m : others) {
            boolean isFace = m.getDeclaringClass() == face && Modifier.isPublic(m.getModifiers());
            due("private: " + m, isFace || m.getDeclaringClass() != face || Modifier.isPrivate(m.getModifiers()));
            due("another name: " + m, isFace || !names.contains(m.getName()));
            due("at most seven parameters: " + m, m.getParameterCount() <= 7);
        }
    }

    private static String told(Method m) {
        StringBuilder s = new StringBuilder(m.getReturnType().getName()).append(' ').append(m.getName()).append('(');
        for (Class<?> p : m.getParameterTypes()) {
            s.append(s.charAt(s.length() - 1) == '(' ? "" : ",").append(p.getName());
        }
        s.append(')');
        for (Class<?> e : m.getExceptionTypes()) {
            s.append(' ').append(e.getSimpleName());
        }
        return s.toString();
    }

    private static void constants(Class<?> face) throws IllegalAccessException {
        TreeSet<String> due = new TreeSet<>(Arrays.asList(CONSTANTS));
        for (Field f : face.getDeclaredFields()) {
            if (Modifier.isPublic(f.getModifiers())) {
                due("a constant: " + f, Modifier.isStatic(f.getModifiers()) && Modifier.isFinal(f.getModifiers())
                    && f.getType() == int.class && due.remove(f.getName() + "=" + f.getInt(null)));
            } else {
                due("private: " + f, Modifier.isPrivate(f.getModifiers()));
            }
        }
        due("all are there: " + due, due.isEmpty());
    }
}
