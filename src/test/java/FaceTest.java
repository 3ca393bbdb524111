import java.lang.reflect.Constructor;
import java.lang.reflect.Field;
import java.lang.reflect.Method;
import java.lang.reflect.Modifier;
import java.util.ArrayList;
import java.util.Arrays;
import java.util.HashSet;
import java.util.List;
import java.util.Set;

/** The document's face, and nothing beside it. */
public final class FaceTest {
    private static final Check CHECK = new Check("FaceTest");
    private static final String[] METHODS = {
        "int taker(int,int,int)", "int of(int,int)", "int portion(int,int)", "int fill(int)",
        "int row(int,int,int)", "int feed(int)", "int rule()", "int told(int)", "int takes(int)", "int day()",
        "int on(int,int)", "int would(int,int)", "int next(int)", "int least(int,int)", "int full(int,int)",
        "int order(int)", "int without(int,int)", "int few(int,int)", "int pitied(int)", "int see(int,int)",
        "int who()", "long odds(int,int,int)", "long mean(int,int)", "int book(int)", "int looked()",
        "int judge(int,int)", "int image()", "int undo()", "int act(int,int,int)", "int trace(int)",
        "int taken(int,int)", "int count(int)", "int tape(int,int,int)", "int item(int,int,long)",
        "long read(int,int)", "int shift(int,int,int,int,int)"};
    private static final String[] CONSTANTS = {
        "int NONE", "int BAD", "int STATE", "int FULL", "long NO"};

    public static void main(String[] args) {
        Class<?> face = LittleLeft.class;
        due("the class is public and final", face.getModifiers() == (Modifier.PUBLIC | Modifier.FINAL));
        due("it has no package", face.getPackageName().isEmpty());
        methods(face);
        constants(face);
        Constructor<?>[] made = face.getDeclaredConstructors();
        due("one constructor, public, of nothing", made.length == 1
            && made[0].getModifiers() == Modifier.PUBLIC && made[0].getParameterCount() == 0);
        for (Class<?> inside : face.getDeclaredClasses()) {
            inside(inside);
        }
        CHECK.end();
    }

    private static void due(String what, boolean holds) {
        CHECK.due(what, holds ? 1 : 0, 1);
    }

    private static void methods(Class<?> face) {
        List<String> open = new ArrayList<>();
        Set<String> names = new HashSet<>();
        for (Method m : face.getDeclaredMethods()) {
            if (!Modifier.isPrivate(m.getModifiers())) {
                String types = Arrays.toString(Arrays.stream(m.getParameterTypes()).map(Class::getName).toArray());
                open.add(m.getReturnType() + " " + m.getName() + types.replace(" ", "").replace('[', '(').replace(']', ')'));
                due(m + " is public alone", m.getModifiers() == Modifier.PUBLIC);
                due(m + " throws nothing", m.getExceptionTypes().length == 0);
                names.add(m.getName());
            }
        }
        due("the methods are " + open, open.size() == METHODS.length && open.containsAll(Arrays.asList(METHODS)));
        for (Class<?> inside : face.getDeclaredClasses()) {
            privateNames(inside, names);
        }
        privateNames(face, names);
    }

    private static void privateNames(Class<?> inside, Set<String> names) {
        for (Method m : inside.getDeclaredMethods()) {
            due(m + " has a name of its own", Modifier.isPublic(m.getModifiers()) || !names.contains(m.getName()));
        }
    }

    private static void constants(Class<?> face) {
        List<String> open = new ArrayList<>();
        for (Field f : face.getDeclaredFields()) {
            if (!Modifier.isPrivate(f.getModifiers())) {
                open.add(f.getType() + " " + f.getName());
                due(f + " is a constant", f.getModifiers() == (Modifier.PUBLIC | Modifier.STATIC | Modifier.FINAL));
            }
            due(f + " is final, if it is static", !Modifier.isStatic(f.getModifiers()) || Modifier.isFinal(f.getModifiers()));
        }
        due("the constants are " + open, open.size() == CONSTANTS.length && open.containsAll(Arrays.asList(CONSTANTS)));
    }

    private static void inside(Class<?> inside) {
        due(inside + " is static", Modifier.isStatic(inside.getModifiers()));
        due(inside + " is not open", !Modifier.isPublic(inside.getModifiers()) && !Modifier.isProtected(inside.getModifiers()));
        int fields = 0;
        for (Field f : inside.getDeclaredFields()) {
            fields += Modifier.isStatic(f.getModifiers()) ? 0 : 1;
            due(f + " is final, if it is static", !Modifier.isStatic(f.getModifiers()) || Modifier.isFinal(f.getModifiers()));
        }
        due(inside + " has 20 fields at most", fields <= 20);
    }
}
