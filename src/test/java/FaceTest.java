import java.lang.reflect.Constructor;
import java.lang.reflect.Field;
import java.lang.reflect.Method;
import java.lang.reflect.Modifier;
import java.util.Set;
import java.util.TreeSet;

/** The public face: its constants, its constructor, its methods, and no other open member. */
public final class FaceTest {
    private static final String[] METHODS = {
        "void begin(int,int)",
        "int setConflict(int,int,int,int)",
        "int setPhases(int,int,int,int,int)",
        "int setFlow(int,int,int)",
        "void setLink(int,int,int)",
        "int setOffset(int,int)",
        "int improve()",
        "int junctions()",
        "boolean hasPlan(int)",
        "int green(int,int)",
        "int clearing(int,int)",
        "int offset(int)",
        "boolean isGreen(int,int,int)",
        "int breaches(int)",
        "int band(boolean)",
        "int bestByAll()",
        "int run(int)",
        "int callBus(int,int)",
        "int clock()",
        "int phaseNow(int)",
        "int queue(int)",
        "int held(int)",
        "int come()",
        "int through()",
    };

    public static void main(String[] args) {
        Check check = new Check("FaceTest");
        check.yes("public", Modifier.isPublic(Greenwave.class.getModifiers()));
        check.yes("final", Modifier.isFinal(Greenwave.class.getModifiers()));
        check.same("methods", openMethods().toString(), new TreeSet<>(Set.of(METHODS)).toString());
        check.same("fields", openFields().toString(), "[BACKWARD, FORWARD, NONE, SIDE, WALKERS]");
        for (Constructor<?> maker : Greenwave.class.getDeclaredConstructors()) {
            check.yes("constructor is public", Modifier.isPublic(maker.getModifiers()));
            check.is("its parameters", maker.getParameterCount(), 0);
        }
        check.is("NONE", Greenwave.NONE, -1);
        check.is("FORWARD", Greenwave.FORWARD, 0);
        check.is("BACKWARD", Greenwave.BACKWARD, 1);
        check.is("SIDE", Greenwave.SIDE, 2);
        check.is("WALKERS", Greenwave.WALKERS, 3);
        checkPrivateNames(check);
        check.finish();
    }

    private static Set<String> openMethods() {
        Set<String> found = new TreeSet<>();
        for (Method method : Greenwave.class.getDeclaredMethods()) {
            if (!Modifier.isPrivate(method.getModifiers())) {
                found.add(signatureOf(method));
            }
        }
        return found;
    }

    private static String signatureOf(Method method) {
        StringBuilder text = new StringBuilder();
        text.append(method.getReturnType().getName()).append(' ').append(method.getName()).append('(');
        for (Class<?> kind : method.getParameterTypes()) {
            if (text.charAt(text.length() - 1) != '(') {
                text.append(',');
            }
            text.append(kind.getName());
        }
        return text.append(')').toString();
    }

    private static Set<String> openFields() {
        Set<String> found = new TreeSet<>();
        for (Field field : Greenwave.class.getDeclaredFields()) {
            if (!Modifier.isPrivate(field.getModifiers())) {
                found.add(field.getName());
            }
        }
        return found;
    }

    private static void checkPrivateNames(Check check) {
        Set<String> open = new TreeSet<>();
        for (Method method : Greenwave.class.getDeclaredMethods()) {
            if (Modifier.isPublic(method.getModifiers())) {
                open.add(method.getName());
            }
        }
        for (Method method : Greenwave.class.getDeclaredMethods()) {
            if (Modifier.isPrivate(method.getModifiers())) {
                check.no(method.getName() + " is private and public", open.contains(method.getName()));
            }
        }
    }
}
