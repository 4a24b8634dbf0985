import java.lang.reflect.Constructor;
import java.lang.reflect.Field;
import java.lang.reflect.Method;
import java.lang.reflect.Modifier;
import java.util.Set;
import java.util.TreeSet;

/** The public face is the document's, and nothing more of the class can be seen from outside. */
public final class FaceTest {
    private static final Set<String> FACE = Set.of(
            "arrow(int,int):int", "variable(int,int):int", "constant(int,int):int",
            "apply(int,int):int", "bind(boolean,int,int):int", "join(boolean,int,int):int",
            "rule(int,int,int):int", "terms():int", "theorems():int", "typeOf(int):int",
            "size(int):int", "free(int,int):boolean", "printed(int,int):int",
            "conclusion(int):int", "hypotheses(int):long", "axioms(int):long", "steps(int):int",
            "NONE:int", "KIND:int", "BOUND:int", "ROOM:int", "new()");

    public static void main(String[] args) {
        Due due = new Due("FaceTest");
        int modifiers = ProofKernel.class.getModifiers();
        due.is("public final", Modifier.isPublic(modifiers) && Modifier.isFinal(modifiers), true);
        due.is("face", seen().toString(), new TreeSet<>(FACE).toString());
        due.is("private methods with public names", hiddenTwins().toString(), "[]");
        due.is("NONE", ProofKernel.NONE, -1);
        due.is("KIND", ProofKernel.KIND, -2);
        due.is("BOUND", ProofKernel.BOUND, -3);
        due.is("ROOM", ProofKernel.ROOM, -4);
        due.end();
    }

    private static Set<String> seen() {
        Set<String> seen = new TreeSet<>();
        for (Method method : ProofKernel.class.getDeclaredMethods()) {
            if (!Modifier.isPrivate(method.getModifiers())) {
                seen.add(method.getName() + list(method.getParameterTypes())
                        + ":" + method.getReturnType().getName());
            }
        }
        for (Field field : ProofKernel.class.getDeclaredFields()) {
            if (!Modifier.isPrivate(field.getModifiers())) {
                seen.add(field.getName() + ":" + field.getType().getName());
            }
        }
        for (Constructor<?> constructor : ProofKernel.class.getDeclaredConstructors()) {
            seen.add("new" + list(constructor.getParameterTypes()));
        }
        return seen;
    }

    private static Set<String> hiddenTwins() {
        Set<String> names = new TreeSet<>();
        for (Method method : ProofKernel.class.getMethods()) {
            names.add(method.getName());
        }
        Set<String> twins = new TreeSet<>();
        for (Method method : ProofKernel.class.getDeclaredMethods()) {
            if (Modifier.isPrivate(method.getModifiers()) && names.contains(method.getName())) {
                twins.add(method.getName());
            }
        }
        return twins;
    }

    private static String list(Class<?>[] types) {
        StringBuilder list = new StringBuilder("(");
        for (int i = 0; i < types.length; i++) {
            list.append(i == 0 ? "" : ",").append(types[i].getName());
        }
        return list.append(")").toString();
    }
}
