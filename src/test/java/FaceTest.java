import java.lang.reflect.Constructor;
import java.lang.reflect.Field;
import java.lang.reflect.Method;
import java.lang.reflect.Modifier;
import java.util.Arrays;
import java.util.Set;
import java.util.TreeSet;

/** The public face, and what LANGUAGE.md says of members and classes. */
public final class FaceTest {
    private static final String[] FACE = {
        "int point(int)", "int into(int)", "int up()", "int document()", "int steps()",
        "int stepAt(int)", "int set(int,int)", "int copy()", "int paste()", "int insert(int)",
        "int drop(int)", "int kind()", "int number()", "int children()", "int childStep(int)",
        "int size(int)", "int depth(int)", "int clip()", "int addPatch()",
        "int addOperation(int,int,int)", "int apply(int,int)", "int failsAt(int,int)",
        "int diff(int,int)", "int forget()", "int patches()", "int operations(int)",
        "int ofOperation(int,int,int)", "int difference(int,int)", "int changes(int,int)",
        "int addSchema()", "int setKinds(int,int,int,int)", "int setChildren(int,int,int,int,int)",
        "int setKey(int,int,int,boolean)", "int check(int,int)", "int pointFailure(int,int,int)",
        "int fitting(int)", "int addQuery()", "int addPart(int,int,int)", "int found(int,int)",
        "int pointFound(int,int,int)", "int having(int,int,int)", "double mean(int,int)",
        "int dropFound(int,int)", "long digest()"};

    private static final Due DUE = new Due("FaceTest");

    public static void main(String[] args) {
        members();
        inner();
        DUE.end();
    }

    private static void members() {
        Class<?> store = MarlStore.class;
        DUE.holds("public and final", Modifier.isPublic(store.getModifiers())
                && Modifier.isFinal(store.getModifiers()));
        Constructor<?>[] made = store.getDeclaredConstructors();
        DUE.holds("one public constructor", made.length == 1 && made[0].getParameterCount() == 0
                && Modifier.isPublic(made[0].getModifiers()));
        Set<String> face = new TreeSet<>();
        Set<String> names = new TreeSet<>();
        for (Method method : store.getDeclaredMethods()) {
            if (Modifier.isPublic(method.getModifiers())) {
                face.add(told(method));
                names.add(method.getName());
            }
        }
        DUE.holds("the face is " + face, face.equals(new TreeSet<>(Arrays.asList(FACE))));
        for (Method method : store.getDeclaredMethods()) {
            int how = method.getModifiers();
            DUE.holds(method + " is private or of the face", Modifier.isPublic(how)
                    || Modifier.isPrivate(how) && !names.contains(method.getName()));
        }
        for (Field field : store.getDeclaredFields()) {
            int how = field.getModifiers();
            DUE.holds(field + " is private", Modifier.isPrivate(how));
            DUE.holds(field + " is no static state", !Modifier.isStatic(how)
                    || Modifier.isFinal(how) && field.getType().isPrimitive());
        }
    }

    private static String told(Method method) {
        StringBuilder all = new StringBuilder();
        all.append(method.getReturnType()).append(' ').append(method.getName()).append('(');
        for (Class<?> type : method.getParameterTypes()) {
            all.append(all.charAt(all.length() - 1) == '(' ? "" : ",").append(type);
        }
        return all.append(')').toString();
    }

    private static void inner() {
        Class<?>[] inner = MarlStore.class.getDeclaredClasses();
        DUE.holds("at most 12 classes", inner.length <= 11);
        for (Class<?> one : inner) {
            int how = one.getModifiers();
            DUE.holds(one + " is static", Modifier.isStatic(how));
            DUE.holds(one + " is hidden", !Modifier.isPublic(how) && !Modifier.isProtected(how));
            DUE.holds(one + " has few fields", one.getDeclaredFields().length <= 20);
            for (Method method : one.getDeclaredMethods()) {
                DUE.holds(method + " has at most 7 parameters", method.getParameterCount() <= 7);
            }
        }
    }
}
