import java.lang.reflect.Constructor;
import java.lang.reflect.Field;
import java.lang.reflect.Method;
import java.lang.reflect.Modifier;
import java.util.ArrayList;
import java.util.List;
import java.util.Map;

/** The public face is just that of the document, and no private method bears a name of it. */
final class FaceTest extends Check {
    private static final Map<String, String> LETTERS = Map.of("IllegalArgumentException", "A",
        "IllegalStateException", "S", "IndexOutOfBoundsException", "I");
    // What a method throws is told by first letters: A(rgument), S(tate), I(ndex).
    private static final String[] FACE = {
        "int addClient(int,int) A S", "int setTerm(int,int) A", "int setRoom(int) A", "int cut(int,boolean) I",
        "int read(int,int) I", "boolean write(int,int,int) I A", "int flush(int) I", "int tick(int) A",
        "int clock()", "int clients()", "int server(int,int) I A", "int lease(int,int) I",
        "int request(int,int,int) I A", "int onTheWay()", "int way(int,int) I A", "int has(int,int,int) I A",
        "int used(int,int) I", "int told(int,int) I A", "int aside(int,int,boolean) I", "double luck(int) I",
        "int stale()", "int calmIn(int) A", "int contentIn(int,int) I A", "int conflictsIn(int,int) I A",
        "long digest()"};

    public static void main(String[] args) {
        methods();
        membersAndClasses();
        close("FaceTest");
    }

    private static void methods() {
        List<String> due = List.of(FACE);
        List<String> names = new ArrayList<>();
        for (String signature : FACE) {
            names.add(signature.substring(signature.indexOf(' ') + 1, signature.indexOf('(')));
        }
        int found = 0;
        for (Method method : IronbridgeCache.class.getDeclaredMethods()) {
            if (method.isSynthetic()) {
                continue;
            }
            if (Modifier.isPrivate(method.getModifiers())) {
                same("no name of the face: " + method, names.contains(method.getName()), false);
                continue;
            }
            found++;
            same("public: " + method, Modifier.isPublic(method.getModifiers()), true);
            same("of the face: " + method, due.contains(signatureOf(method)), true);
            same("of the object: " + method, Modifier.isStatic(method.getModifiers()), false);
        }
        same("all of the face", found, FACE.length);
    }

    private static void membersAndClasses() {
        same("public", Modifier.isPublic(IronbridgeCache.class.getModifiers()), true);
        same("final", Modifier.isFinal(IronbridgeCache.class.getModifiers()), true);
        same("without a package", IronbridgeCache.class.getPackageName().isEmpty(), true);
        same("of no other class", IronbridgeCache.class.getSuperclass() == Object.class, true);
        Constructor<?>[] constructors = IronbridgeCache.class.getDeclaredConstructors();
        same("one constructor", constructors.length, 1);
        same("public constructor", Modifier.isPublic(constructors[0].getModifiers()), true);
        same("constructor without arguments", constructors[0].getParameterCount(), 0);
        for (Field field : IronbridgeCache.class.getDeclaredFields()) {
            same("private: " + field, field.isSynthetic() || Modifier.isPrivate(field.getModifiers()), true);
        }
        for (Class<?> inner : IronbridgeCache.class.getDeclaredClasses()) {
            same("not to be seen: " + inner, Modifier.isPublic(inner.getModifiers()), false);
            for (Method method : inner.getDeclaredMethods()) {
                same("at most seven parameters: " + method, method.getParameterCount() <= 7, true);
            }
        }
    }

    private static String signatureOf(Method method) {
        StringBuilder text = new StringBuilder();
        text.append(method.getReturnType().getSimpleName()).append(' ').append(method.getName()).append('(');
        Class<?>[] types = method.getParameterTypes();
        for (int i = 0; i < types.length; i++) {
            text.append(i == 0 ? "" : ",").append(types[i].getSimpleName());
        }
        text.append(')');
        for (Class<?> thrown : method.getExceptionTypes()) {
            text.append(' ').append(LETTERS.getOrDefault(thrown.getSimpleName(), "?"));
        }
        return text.toString();
    }
}
