import java.lang.reflect.Constructor;
import java.lang.reflect.Field;
import java.lang.reflect.Method;
import java.lang.reflect.Modifier;
import java.util.Set;
import java.util.TreeSet;

/** The public face is the document's, and nothing else can be seen from outside. */
public final class FaceTest {
    private static final Set<String> METHODS = Set.of(
        "int piece(int,int)", "int dropPiece(int)", "int pieceAt(int,int)", "int shot(int,boolean)",
        "int shotAt(int)", "int toNew(int,int)", "int toOld(int)", "int type(int)", "int clear()",
        "int add(int,int,int)", "int drop(int)", "int move(int,int,int)", "int subtitle(int,int)",
        "int part(int,int,int)", "int set(int,int)", "int conform(int)", "int ifConform(int,int)",
        "int stretches(int)", "int shown(int)", "int faults(int)", "int told(int)", "int undo()",
        "long digest()");

    public static void main(String[] args) throws IllegalAccessException {
        Check check = new Check();
        int face = CutConformer.class.getModifiers();
        check.holds("public final", Modifier.isPublic(face) && Modifier.isFinal(face));
        check.due("BAD", CutConformer.BAD, -1);
        check.due("STATE", CutConformer.STATE, -2);
        check.due("FULL", CutConformer.FULL, -3);
        check.due("NONE", CutConformer.NONE, -9);
        Set<String> seen = new TreeSet<>();
        Set<String> hidden = new TreeSet<>();
        for (Method m : CutConformer.class.getDeclaredMethods()) {
            if (Modifier.isPrivate(m.getModifiers())) hidden.add(m.getName());
            else seen.add(described(m));
        }
        check.holds("methods " + seen, seen.equals(METHODS));
        Set<String> names = new TreeSet<>();
        for (String method : METHODS) {
            String name = method.substring(method.indexOf(' ') + 1, method.indexOf('('));
            names.add(name);
            check.holds("no private " + name, !hidden.contains(name));
        }
        Set<String> constants = new TreeSet<>();
        for (Field f : CutConformer.class.getDeclaredFields()) {
            int m = f.getModifiers();
            if (!Modifier.isPrivate(m)) {
                constants.add(f.getName());
                check.holds(f.getName() + " is a public int constant",
                    Modifier.isPublic(m) && Modifier.isStatic(m) && Modifier.isFinal(m) && f.getType() == int.class);
            }
        }
        check.holds("constants " + constants, constants.equals(Set.of("BAD", "STATE", "FULL", "NONE")));
        Constructor<?>[] constructors = CutConformer.class.getDeclaredConstructors();
        check.due("constructors", constructors.length, 1);
        check.holds("the constructor", Modifier.isPublic(constructors[0].getModifiers())
            && constructors[0].getParameterCount() == 0);
        for (Class<?> inside : CutConformer.class.getDeclaredClasses()) {
            int m = inside.getModifiers();
            check.holds(inside.getName() + " is static and not public",
                Modifier.isStatic(m) && !Modifier.isPublic(m) && !Modifier.isProtected(m));
            for (Method inner : inside.getDeclaredMethods()) {
                check.holds(inside.getName() + " has no " + inner.getName(), !names.contains(inner.getName()));
            }
        }
        check.end("FaceTest");
    }

    private static String described(Method m) {
        StringBuilder text = new StringBuilder();
        if (!Modifier.isPublic(m.getModifiers())) text.append("hidden ");
        if (Modifier.isStatic(m.getModifiers())) text.append("static ");
        text.append(m.getReturnType().getName()).append(' ').append(m.getName()).append('(');
        for (int k = 0; k < m.getParameterCount(); k++) {
            if (k > 0) text.append(',');
            text.append(m.getParameterTypes()[k].getName());
        }
        return text.append(')').toString();
    }
}
