import java.lang.reflect.Constructor;
import java.lang.reflect.Field;
import java.lang.reflect.Method;
import java.lang.reflect.Modifier;
import java.util.Set;
import java.util.TreeSet;

/** The public face is the document's, and there is nothing else that another class could reach. */
public final class FaceTest {
    private static final String[] METHODS = {
        "int type(int,int)", "int wipe(int)", "int undo(int)", "int fault(int)", "int rider(int,int)",
        "int worth(int,int)", "int set(int,int)", "int has(int,int)", "int torn(int,int)", "int bag(int,int)",
        "int gets(int)", "int first(int)", "int still()", "int served(int)", "int rings(int)", "int open(int,int)",
        "int least(int)", "int top(int)", "int seen(int,int,int)", "int forget()", "int read(int)", "int had(int)",
        "int was()", "int ask(int)", "long maybe(int,int,int,int)", "int depot(int,int,int)", "int sheet(int,int,int)",
        "int lose(int)", "int lay(int,int,int,int)", "int get(int,int,int)", "int copy(int,int,int,int,int)",
        "int write(int,int)", "int count(int)", "long digest()"};
    private static final String[] CONSTANTS = {"NONE", "BAD", "NOT", "FULL"};

    public static void main(String[] args) throws IllegalAccessException {
        Class<?> face = AfternoonChange.class;
        Due.is("the class", face.getModifiers(), Modifier.PUBLIC | Modifier.FINAL);
        Due.holds("it extends nothing", face.getSuperclass() == Object.class && face.getInterfaces().length == 0);
        methods(face);
        constants(face);
        Constructor<?>[] constructors = face.getDeclaredConstructors();
        Due.is("constructors", constructors.length, 1);
        Due.is("the constructor", constructors[0].getModifiers(), Modifier.PUBLIC);
        Due.is("its parameters", constructors[0].getParameterCount(), 0);
        for (Class<?> inside : face.getDeclaredClasses()) {
            int m = inside.getModifiers();
            Due.holds(inside + " is static", Modifier.isStatic(m));
            Due.holds(inside + " is not seen", !Modifier.isPublic(m) && !Modifier.isProtected(m));
        }
        Due.end("FaceTest");
    }

    private static void methods(Class<?> face) {
        Set<String> due = new TreeSet<>(Set.of(METHODS));
        Set<String> names = new TreeSet<>();
        for (String s : METHODS) {
            names.add(s.substring(s.indexOf(' ') + 1, s.indexOf('(')));
        }
        for (Method m : face.getDeclaredMethods()) {
            StringBuilder told = new StringBuilder(m.getReturnType() + " " + m.getName() + "(");
            for (int i = 0; i < m.getParameterCount(); i++) {
                told.append(i == 0 ? "" : ",").append(m.getParameterTypes()[i]);
            }
            String call = told.append(")").toString();
            if (Modifier.isPrivate(m.getModifiers())) {
                Due.holds("a private " + call + " bears no public name", !names.contains(m.getName()));
            } else {
                Due.is(call, m.getModifiers(), Modifier.PUBLIC);
                Due.holds(call + " is of the face", due.remove(call));
            }
        }
        Due.holds("missing " + due, due.isEmpty());
    }

    private static void constants(Class<?> face) throws IllegalAccessException {
        int found = 0;
        for (Field f : face.getDeclaredFields()) {
            int m = f.getModifiers();
            Due.holds(f + " is not static, or final", !Modifier.isStatic(m) || Modifier.isFinal(m));
            if (!Modifier.isPrivate(m)) {
                Due.is(f.toString(), m, Modifier.PUBLIC | Modifier.STATIC | Modifier.FINAL);
                Due.is(f.getName(), f.getInt(null), -1 - java.util.Arrays.asList(CONSTANTS).indexOf(f.getName()));
                found++;
            }
        }
        Due.is("constants", found, CONSTANTS.length);
    }
}
