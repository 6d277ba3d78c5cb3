import java.lang.reflect.Constructor;
import java.lang.reflect.Field;
import java.lang.reflect.Method;
import java.lang.reflect.Modifier;
import java.util.Set;
import java.util.TreeSet;

/** The public face: all that the document has, and nothing else. */
public final class FaceTest {
    private static final String FACE = "int set(int,boolean); int at(int); int empty(); int step(int); int back(int);"
        + " int kept(int); int row(int); int heap(int); int strings(int); int string(int,int); int leap(int,int);"
        + " int ring(int,int); int ringAt(int); int turn(int); int period(int); int rings(int,int,int,int);"
        + " int sheet(int,int,int); int lose(int); int put(int,int,int,int); int get(int,int,int);"
        + " int copy(int,int,int,int,int); int load(int,int); int write(int,int); int count(int); long digest()";

    public static void main(String[] args) {
        Due due = new Due("FaceTest");
        due.is("NONE", BallBoxes.NONE, -1);
        due.is("BAD", BallBoxes.BAD, -2);
        due.is("NOT", BallBoxes.NOT, -3);
        due.is("FULL", BallBoxes.FULL, -4);
        due.is("SPENT", BallBoxes.SPENT, -5);
        due.holds("public and final", BallBoxes.class.getModifiers() == (Modifier.PUBLIC | Modifier.FINAL));
        methods(due);
        fields(due);
        constructors(due);
        for (Class<?> inside : BallBoxes.class.getDeclaredClasses()) {
            due.holds(inside + " is static", Modifier.isStatic(inside.getModifiers()));
            due.holds(inside + " is not public", !Modifier.isPublic(inside.getModifiers()));
            fewFields(due, inside);
        }
        fewFields(due, BallBoxes.class);
        due.end();
    }

    private static void methods(Due due) {
        Set<String> wanted = new TreeSet<>(Set.of(FACE.split("; ")));
        Set<String> got = new TreeSet<>();
        Set<String> names = new TreeSet<>();
        for (Method method : BallBoxes.class.getDeclaredMethods()) {
            if (Modifier.isPrivate(method.getModifiers())) continue;
            got.add(said(method));
            names.add(method.getName());
        }
        due.holds("the methods are " + wanted + ", got " + got, wanted.equals(got));
        for (Method method : BallBoxes.class.getDeclaredMethods()) {
            boolean open = !Modifier.isPrivate(method.getModifiers());
            due.holds(method.getName() + " is public", open == Modifier.isPublic(method.getModifiers()));
            due.holds(method.getName() + " private and public", open || !names.contains(method.getName()));
        }
        for (Class<?> inside : BallBoxes.class.getDeclaredClasses()) {
            for (Method method : inside.getDeclaredMethods()) {
                due.holds(method + " has a name of the face", !names.contains(method.getName()));
            }
        }
    }

    private static String said(Method method) {
        StringBuilder said = new StringBuilder(method.getReturnType() + " " + method.getName() + "(");
        for (Class<?> type : method.getParameterTypes()) {
            if (said.charAt(said.length() - 1) != '(') said.append(',');
            said.append(type);
        }
        return said.append(')').toString();
    }

    private static void fields(Due due) {
        Set<String> open = new TreeSet<>();
        for (Field field : BallBoxes.class.getDeclaredFields()) {
            int how = field.getModifiers();
            if (!Modifier.isPrivate(how)) open.add(field.getName());
            due.holds(field + " is final, if static", !Modifier.isStatic(how) || Modifier.isFinal(how));
        }
        due.holds("the constants, got " + open, open.equals(Set.of("NONE", "BAD", "NOT", "FULL", "SPENT")));
    }

    /** Rule 11 of LANGUAGE.md: some twenty fields beside the constants. */
    private static void fewFields(Due due, Class<?> one) {
        int fields = 0;
        for (Field field : one.getDeclaredFields()) {
            if (!Modifier.isStatic(field.getModifiers())) fields++;
        }
        due.holds(one + " has " + fields + " fields", fields <= 20);
    }

    private static void constructors(Due due) {
        Constructor<?>[] all = BallBoxes.class.getDeclaredConstructors();
        due.is("constructors", all.length, 1);
        due.is("its parameters", all[0].getParameterCount(), 0);
        due.holds("public", Modifier.isPublic(all[0].getModifiers()));
    }
}
