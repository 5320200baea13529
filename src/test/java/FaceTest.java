import java.lang.reflect.Constructor;
import java.lang.reflect.Field;
import java.lang.reflect.Method;
import java.lang.reflect.Modifier;
import java.util.TreeSet;

/** The class has the document's face and no other member that can be seen from outside. */
public final class FaceTest {
    private static final String[] FACE = {
        "int above(int)", "int back()", "int child()", "int count(int)", "int down(int,int)",
        "int drops(int,int)", "int edge(int,int,int)", "int falls(int,int)", "int fault(int)",
        "int feed(int,int,int,int,int)", "int hands(int,boolean,int)", "int hangs(int)",
        "int highest(int,int)", "int judge(int,long)", "int keep()", "int look(int,int)", "int may()",
        "int most(int)", "int move(int,int)", "int named(int)", "int over(int,int,int)", "int pull(int)",
        "int pulled(int)", "int push(int,int,int)", "int spree(int)", "int stands(int,int,int)",
        "int take(int)", "int text(int)", "int there()", "int undo()", "long bears(int,int)",
        "long wish(int)"};

    private static int wrong = 0;

    private static void check(boolean right, String what) {
        if (!right) {
            wrong++;
            System.out.println(what);
        }
    }

    private static String told(Method m) {
        StringBuilder b = new StringBuilder(m.getReturnType().getName()).append(' ').append(m.getName()).append('(');
        for (int i = 0; i < m.getParameterCount(); i++) {
            b.append(i == 0 ? "" : ",").append(m.getParameterTypes()[i].getName());
        }
        return b.append(')').toString();
    }

    public static void main(String[] args) {
        Class<?> c = TinTower.class;
        check(Modifier.isPublic(c.getModifiers()) && Modifier.isFinal(c.getModifiers()), "the class is not public and final");
        TreeSet<String> due = new TreeSet<>(java.util.Arrays.asList(FACE));
        TreeSet<String> names = new TreeSet<>();
        for (String face : FACE) {
            names.add(face.substring(face.indexOf(' ') + 1, face.indexOf('(')));
        }
        TreeSet<String> found = new TreeSet<>();
        for (Method m : c.getDeclaredMethods()) {
            if (!m.isSynthetic() && !Modifier.isPrivate(m.getModifiers())) {
                check(Modifier.isPublic(m.getModifiers()) && !Modifier.isStatic(m.getModifiers()), "not of the face: " + m);
                found.add(told(m));
                checkExceptions(m);
            }
        }
        check(found.equals(due), "the face is " + found + ", due is " + due);
        for (Field f : c.getDeclaredFields()) {
            check(Modifier.isPrivate(f.getModifiers()) || f.getName().equals("NONE"), "a field that can be seen: " + f);
        }
        check(TinTower.NONE == -1, "NONE");
        Constructor<?>[] made = c.getDeclaredConstructors();
        check(made.length == 1 && Modifier.isPublic(made[0].getModifiers()) && made[0].getParameterCount() == 0, "the constructor");
        checkInside(c, names);
        System.out.println(wrong == 0 ? "the face is as due" : wrong + " things are not as due");
        System.exit(wrong == 0 ? 0 : 1);
    }

    private static void checkExceptions(Method m) {
        String thrown = java.util.Arrays.toString(m.getExceptionTypes());
        String due = m.getName().equals("look")
                ? "[class java.lang.IndexOutOfBoundsException, class java.util.NoSuchElementException]" : "[]";
        check(thrown.equals(due), m.getName() + " tells to throw " + thrown);
    }

    private static void checkInside(Class<?> c, TreeSet<String> names) {
        check(c.getDeclaredClasses().length <= 12, "more classes than the language leaves");
        for (Method m : c.getDeclaredMethods()) {
            check(!Modifier.isPrivate(m.getModifiers()) || !names.contains(m.getName()), "bears a name of the face: " + m);
        }
        for (Class<?> inside : c.getDeclaredClasses()) {
            check(Modifier.isPrivate(inside.getModifiers()) && Modifier.isStatic(inside.getModifiers()), "not private and static: " + inside);
            for (Method m : inside.getDeclaredMethods()) {
                check(!names.contains(m.getName()), "bears a name of the face: " + m);
                check(m.getParameterCount() <= 7, "too many parameters: " + m);
            }
        }
    }
}
