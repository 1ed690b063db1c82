import java.lang.reflect.Constructor;
import java.lang.reflect.Field;
import java.lang.reflect.Member;
import java.lang.reflect.Method;
import java.lang.reflect.Modifier;
import java.util.Set;
import java.util.TreeSet;

/** The face as the document lists it, and what LANGUAGE.md says of members that can be seen from outside. */
public final class FaceTest {
    private static final String[] METHODS = {
        "say(int)", "wipe()", "fault(int)", "ring(int)", "slices()", "will()", "wedding(int,int)",
        "cell(int,int)", "was(int,int)", "has(int)", "worth(int,int,int)", "share(int,int)", "envies(int)",
        "fair(int,int)", "best(int,int)", "toll(int)", "right(int,int,boolean)", "way(int,int,int,int)",
        "stone(int,int,int)", "avalanche(int,int,int)", "rolls(int)", "fence(int)",
        "spring(int,int,int,int)", "bounds(int)", "image(int)", "restore(int)", "told(int)"};
    private static final String[] CONSTANTS = {"NONE", "UNKNOWN", "OUTSIDE", "STATE", "FULL", "NO"};
    private static final Due DUE = new Due("FaceTest");

    private FaceTest() {
    }

    public static void main(String[] args) throws IllegalAccessException {
        DUE.is("public final", HillSlices.class.getModifiers(), Modifier.PUBLIC | Modifier.FINAL);
        constants();
        methods();
        constructors();
        fields();
        classesInside();
        DUE.end();
    }

    private static void constants() throws IllegalAccessException {
        int[] values = {-6, -1, -2, -3, -4, -5};
        Set<String> names = new TreeSet<>(Set.of(CONSTANTS));
        for (Field field : HillSlices.class.getDeclaredFields()) {
            if (!Modifier.isPrivate(field.getModifiers())) {
                DUE.is("field " + field.getName() + " is of the face", names.remove(field.getName()) ? 1 : 0, 1);
            }
        }
        DUE.is("constants that are missing", names.size(), 0);
        int[] got = {HillSlices.NONE, HillSlices.UNKNOWN, HillSlices.OUTSIDE, HillSlices.STATE, HillSlices.FULL,
            HillSlices.NO};
        for (int i = 0; i < values.length; i++) {
            DUE.is(CONSTANTS[i], got[i], values[i]);
        }
    }

    private static String signature(Method method) {
        StringBuilder text = new StringBuilder(method.getName()).append('(');
        for (Class<?> type : method.getParameterTypes()) {
            text.append(text.charAt(text.length() - 1) == '(' ? "" : ",").append(type.getName());
        }
        return text.append(')').toString();
    }

    private static void methods() {
        Set<String> face = new TreeSet<>(Set.of(METHODS));
        for (Method method : HillSlices.class.getDeclaredMethods()) {
            if (Modifier.isPrivate(method.getModifiers())) {
                DUE.is("private " + method.getName() + " bears a public name", isPublicName(method.getName()) ? 1 : 0, 0);
            } else {
                DUE.is(signature(method) + " is of the face", face.remove(signature(method)) ? 1 : 0, 1);
                DUE.is(signature(method) + " is public", method.getModifiers(), Modifier.PUBLIC);
                DUE.is(signature(method) + " answers an int", method.getReturnType() == int.class ? 1 : 0, 1);
            }
        }
        DUE.is("methods that are missing", face.size(), 0);
    }

    private static boolean isPublicName(String name) {
        boolean found = false;
        for (String method : METHODS) {
            found |= method.startsWith(name + "(");
        }
        return found;
    }

    private static void constructors() {
        Constructor<?>[] all = HillSlices.class.getDeclaredConstructors();
        DUE.is("constructors", all.length, 1);
        DUE.is("parameters", all[0].getParameterCount(), 0);
        DUE.is("public constructor", all[0].getModifiers(), Modifier.PUBLIC);
    }

    private static void fields() {
        for (Class<?> type : withThoseInside()) {
            int fields = 0;
            for (Field field : type.getDeclaredFields()) {
                if (Modifier.isStatic(field.getModifiers())) {
                    DUE.is(name(type, field) + " is final", Modifier.isFinal(field.getModifiers()) ? 1 : 0, 1);
                } else {
                    fields++;
                }
            }
            DUE.is("fields of " + type.getName() + " are some twenty at most", fields <= 20 ? 1 : 0, 1);
        }
    }

    private static String name(Class<?> type, Member member) {
        return type.getName() + "." + member.getName();
    }

    private static Class<?>[] withThoseInside() {
        Class<?>[] inside = HillSlices.class.getDeclaredClasses();
        Class<?>[] all = new Class<?>[inside.length + 1];
        System.arraycopy(inside, 0, all, 1, inside.length);
        all[0] = HillSlices.class;
        return all;
    }

    private static void classesInside() {
        Class<?>[] inside = HillSlices.class.getDeclaredClasses();
        DUE.is("some twelve classes at most", inside.length <= 11 ? 1 : 0, 1);
        for (Class<?> type : inside) {
            int seen = type.getModifiers() & (Modifier.PUBLIC | Modifier.PROTECTED);
            DUE.is(type.getName() + " is seen from outside", seen, 0);
            DUE.is(type.getName() + " is static", type.getModifiers() & Modifier.STATIC, Modifier.STATIC);
            for (Method method : type.getDeclaredMethods()) {
                DUE.is(name(type, method) + " bears a public name", isPublicName(method.getName()) ? 1 : 0, 0);
            }
        }
    }
}
