import java.lang.reflect.Constructor;
import java.lang.reflect.Field;
import java.lang.reflect.Method;
import java.lang.reflect.Modifier;
import java.util.Arrays;
import java.util.NoSuchElementException;
import java.util.Set;
import java.util.TreeSet;

/** The public face is that of the document, and nothing but classes inside can be seen beside it. */
public final class FaceTest {
    private static final String[] FACE = {
        "boolean kitchen(int,int,int,int,boolean)", "boolean call(int,int,int,int)", "boolean sheet(int,int,int,int)",
        "boolean tenths(int)", "boolean floor(int,int,int,int)", "int hands(int,int)", "int bank(int,int,int,int)!",
        "long river(int,int,int,int)!", "long part(int,int,int,int)!", "long bounds(int,int,int)!",
        "int swings(int,int)", "int next(int,int)", "long sheets(int,int,boolean,int)!", "long choosing(int,int,int,int)!",
        "long odds(int,int,int)", "long beside(int,int,int)!", "long alike(int,int)", "long apart(int,int,int,int)!",
        "int feed(long,long,long)", "int law(int)", "int world(int,int,int,int)", "long fits(int,int)", "int best(int)",
        "int rivers(int,int,int,int,int)", "int other(int,int,boolean)", "long others(boolean,int)!", "int drawer(int)",
        "int writer(int)", "int takes(int,int)", "long writes(int,int)!", "long forks(int)!",
        "boolean book(int,int,int,int)", "long booked(int,int,int)!", "long closes(int,int,int,int)!",
        "long lots(int,int,int,int)", "int needed(int,int,int)", "int slips(int,int)", "long mixed(int,int,int)!",
        "int where(int)", "boolean mark(int,boolean)", "int count(int)"};

    public static void main(String[] args) throws Exception {
        Due due = new Due("FaceTest");
        Class<?> face = RiverWage.class;
        due.is("public and final", face.getModifiers(), Modifier.PUBLIC | Modifier.FINAL);
        Set<String> names = new TreeSet<>();
        Set<String> seen = new TreeSet<>();
        for (Method method : face.getDeclaredMethods()) {
            if (Modifier.isPublic(method.getModifiers())) {
                names.add(method.getName());
                seen.add(told(method));
                due.is(method + " is not static", Modifier.isStatic(method.getModifiers()), false);
            }
        }
        Set<String> wanted = new TreeSet<>(Arrays.asList(FACE));
        if (!seen.equals(wanted)) {
            due.tell("methods are " + seen + ", due are " + wanted);
        }
        for (Method method : face.getDeclaredMethods()) {
            if (!Modifier.isPublic(method.getModifiers())) {
                due.is(method + " is private", Modifier.isPrivate(method.getModifiers()), true);
                due.is(method + " has a name of its own", names.contains(method.getName()), false);
            }
        }
        for (Field field : face.getDeclaredFields()) {
            if (!field.getName().equals("NONE")) {
                due.is(field + " is private", Modifier.isPrivate(field.getModifiers()), true);
            }
        }
        Field none = face.getDeclaredField("NONE");
        due.is("NONE", none.getModifiers(), Modifier.PUBLIC | Modifier.STATIC | Modifier.FINAL);
        due.is("NONE", none.getInt(null), -1);
        Constructor<?>[] constructors = face.getDeclaredConstructors();
        due.is("constructors", constructors.length, 1);
        due.is("constructor", constructors[0].getModifiers(), Modifier.PUBLIC);
        due.is("constructor's parameters", constructors[0].getParameterCount(), 0);
        classesInside(due, face, names);
        due.close();
    }

    private static String told(Method method) {
        StringBuilder text = new StringBuilder();
        text.append(method.getReturnType()).append(' ').append(method.getName()).append('(');
        for (Class<?> type : method.getParameterTypes()) {
            text.append(text.charAt(text.length() - 1) == '(' ? "" : ",").append(type);
        }
        text.append(')');
        for (Class<?> thrown : method.getExceptionTypes()) {
            text.append(thrown == NoSuchElementException.class ? "!" : thrown.getName());
        }
        return text.toString();
    }

    private static void classesInside(Due due, Class<?> face, Set<String> names) {
        Class<?>[] inside = face.getDeclaredClasses();
        due.is("at most twelve classes", inside.length + 1 <= 12, true);
        for (Class<?> own : inside) {
            due.is(own + " is static", Modifier.isStatic(own.getModifiers()), true);
            due.is(own + " is not public", Modifier.isPublic(own.getModifiers()), false);
            for (Method method : own.getDeclaredMethods()) {
                due.is(method + " has a name of its own", names.contains(method.getName()), false);
            }
        }
    }
}
