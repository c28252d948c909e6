import java.lang.reflect.Constructor;
import java.lang.reflect.Field;
import java.lang.reflect.Method;
import java.lang.reflect.Modifier;
import java.util.ArrayList;
import java.util.Collections;
import java.util.List;

/** The public face is the document's, and no more. */
public final class FaceTest {
    private static final List<String> FACE = List.of(
            "FoldedFamily(int)",
            "boolean column(char,int)",
            "int NONE",
            "int build()",
            "int derived(int,int,int)",
            "int emits(int,int,int)",
            "int feed(int,int)",
            "int hit(int,int)",
            "int kind(int)",
            "int node(int)",
            "int scan(int,int)",
            "int step(int,int)",
            "int target(int,int)",
            "int value(int,int,int)",
            "void clear()",
            "void erase()");

    public static void main(String[] args) {
        Class<?> type = FoldedFamily.class;
        List<String> face = new ArrayList<>();
        for (Constructor<?> made : type.getDeclaredConstructors()) {
            if (!Modifier.isPrivate(made.getModifiers())) {
                face.add(type.getName() + parameters(made.getParameterTypes()));
            }
        }
        for (Method method : type.getDeclaredMethods()) {
            if (!Modifier.isPrivate(method.getModifiers())) {
                face.add(method.getReturnType() + " " + method.getName()
                        + parameters(method.getParameterTypes()));
                Check.due(method + " is public", Modifier.isPublic(method.getModifiers()), true);
            }
        }
        for (Field field : type.getDeclaredFields()) {
            if (!Modifier.isPrivate(field.getModifiers())) {
                face.add(field.getType() + " " + field.getName());
            }
            if (Modifier.isStatic(field.getModifiers())) {
                Check.due(field + " is final", Modifier.isFinal(field.getModifiers()), true);
            }
        }
        Collections.sort(face);
        Check.dueRow("the face", face.toString(), FACE.toString());
        Check.due("the class is final", Modifier.isFinal(type.getModifiers()), true);
        duePrivateNamesOfTheirOwn(type);
        for (Class<?> inside : type.getDeclaredClasses()) {
            boolean hidden = !Modifier.isPublic(inside.getModifiers())
                    && !Modifier.isProtected(inside.getModifiers());
            Check.due(inside + " is static and hidden",
                    hidden && Modifier.isStatic(inside.getModifiers()), true);
            duePrivateNamesOfTheirOwn(inside);
        }
        Check.end();
    }

    /** Rule 1 of LANGUAGE.md: no private method bears the name of a public one. */
    private static void duePrivateNamesOfTheirOwn(Class<?> type) {
        for (Method method : type.getDeclaredMethods()) {
            if (Modifier.isPrivate(method.getModifiers())) {
                boolean isOfFace = false;
                for (Method open : FoldedFamily.class.getMethods()) {
                    isOfFace |= open.getName().equals(method.getName());
                }
                Check.due(method + " bears a name of the face", isOfFace, false);
            }
        }
    }

    private static String parameters(Class<?>[] types) {
        List<String> names = new ArrayList<>();
        for (Class<?> type : types) {
            names.add(type.getName());
        }
        return "(" + String.join(",", names) + ")";
    }
}
