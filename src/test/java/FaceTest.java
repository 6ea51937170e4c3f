import java.lang.reflect.Constructor;
import java.lang.reflect.Field;
import java.lang.reflect.Method;
import java.lang.reflect.Modifier;
import java.util.Arrays;
import java.util.Set;
import java.util.TreeSet;

/** The public face: what the document has, and nothing else (LANGUAGE.md, rule 1). */
final class FaceTest {
    private static final String[] METHODS = {
        "boolean attach(int)", "boolean detach(int)", "boolean device(int int int int)", "boolean endpoint(int int int int)",
        "boolean fault(int int int)", "int control(int int int int int)", "int end(int)", "int frames(int)", "int look(int)",
        "int packet(int int)", "int point(int int int)", "int put(int int int)", "int receive(int int int)", "int send(int int int)",
        "int state(int int)", "int take(int int)", "int transfer(int int)", "void feed(int int int int int)"
    };

    public static void main(String[] args) {
        Class<?> face = WireBus.class;
        Check.due("public and final", Modifier.isPublic(face.getModifiers()) && Modifier.isFinal(face.getModifiers()), true);
        methodsAreThoseOfTheDocument(face);
        fieldsAndConstructors(face);
        classesInsideAreStaticAndFew(face);
        Check.finish();
    }

    private static void methodsAreThoseOfTheDocument(Class<?> face) {
        Set<String> open = new TreeSet<>();
        Set<String> openNames = new TreeSet<>();
        for (Method m : face.getDeclaredMethods()) {
            if (!Modifier.isPrivate(m.getModifiers())) {
                open.add(m.getReturnType() + " " + m.getName() + "(" + parameters(m.getParameterTypes()) + ")");
                openNames.add(m.getName());
            }
        }
        Check.due("methods", open.toString(), new TreeSet<>(Arrays.asList(METHODS)).toString());
        for (Class<?> inside : face.getDeclaredClasses()) {
            for (Method m : inside.getDeclaredMethods()) {
                Check.due(inside.getSimpleName() + "." + m.getName() + " has a name of the face", openNames.contains(m.getName()), false);
                Check.due(m.getName() + " has at most seven parameters", m.getParameterCount() <= 7, true);
            }
        }
        for (Method m : face.getDeclaredMethods()) {
            if (Modifier.isPrivate(m.getModifiers())) {
                Check.due(m.getName() + " has a name of the face", openNames.contains(m.getName()), false);
            }
        }
    }

    private static String parameters(Class<?>[] types) {
        StringBuilder text = new StringBuilder();
        for (Class<?> type : types) {
            text.append(text.length() == 0 ? "" : " ").append(type);
        }
        return text.toString();
    }

    private static void fieldsAndConstructors(Class<?> face) {
        for (Field f : face.getDeclaredFields()) {
            boolean constant = f.getName().equals("NONE");
            Check.due("field " + f.getName(), Modifier.isPrivate(f.getModifiers()), !constant);
            if (constant) {
                Check.due("NONE", f.toString(), "public static final int WireBus.NONE");
            }
        }
        Constructor<?>[] all = face.getDeclaredConstructors();
        Check.due("constructors", all.length, 1);
        Check.due("constructor", all[0].toString(), "public WireBus(int)");
    }

    private static void classesInsideAreStaticAndFew(Class<?> face) {
        Class<?>[] inside = face.getDeclaredClasses();
        Check.due("classes", inside.length <= 11, true);
        for (Class<?> c : inside) {
            Check.due(c + " is static", Modifier.isStatic(c.getModifiers()), true);
            Check.due(c + " is not public", Modifier.isPublic(c.getModifiers()) || Modifier.isProtected(c.getModifiers()), false);
            int fields = 0;
            for (Field f : c.getDeclaredFields()) {
                boolean shared = Modifier.isStatic(f.getModifiers());
                fields += shared ? 0 : 1;
                Check.due("static " + f.getName() + " is final", !shared || Modifier.isFinal(f.getModifiers()), true);
            }
            Check.due("fields of " + c, fields <= 20, true);
        }
    }
}
