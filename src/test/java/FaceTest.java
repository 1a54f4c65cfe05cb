import java.lang.reflect.Constructor;
import java.lang.reflect.Field;
import java.lang.reflect.Method;
import java.lang.reflect.Modifier;
import java.util.Set;
import java.util.TreeSet;

/** The face of the class: the members of the document, and no other that can be seen from outside. */
public final class FaceTest {
    private static final String[] METHODS = {"int addNode(int,int)", "int setSize(int,int)",
        "int removeLeaf(int)", "int setParent(int,int)", "int setCanvas(int,int)", "int setPadding(int)",
        "int setMode(int)", "int nodeCount()", "int size(int)", "int parent(int)", "int depth(int)",
        "int leafCount()", "int x(int)", "int y(int)", "int width(int)", "int height(int)",
        "int isHidden(int)", "int nodeAt(int,int)", "int leafPixels()", "int worstAspect()",
        "int averageAspect()", "int changeBy(int,int)", "int undo()", "int errorCount(int)",
        "long digest()"};
    private static final String[] CONSTANTS = {"NONE=-1", "INVALID=-2", "REJECTED=-3", "FULL=-4",
        "SLICE=0", "STRIP=1", "SQUARIFIED=2"};
    private static int wrong = 0;

    public static void main(String[] args) throws Exception {
        Class<?> face = TreemapLayout.class;
        same("class", Modifier.toString(face.getModifiers()), "public final");
        same("methods", methodsOf(face).toString(), new TreeSet<>(Set.of(METHODS)).toString());
        same("constants", constantsOf(face).toString(), new TreeSet<>(Set.of(CONSTANTS)).toString());
        Constructor<?>[] constructors = face.getDeclaredConstructors();
        same("constructors", String.valueOf(constructors.length), "1");
        same("constructor", constructors[0].toString(), "public TreemapLayout()");
        for (Class<?> inside : face.getDeclaredClasses()) {
            same(inside.getName() + " is static", Modifier.isStatic(inside.getModifiers()) + "", "true");
            same(inside.getName() + " is public", Modifier.isPublic(inside.getModifiers()) + "", "false");
            noStaticState(inside);
        }
        noStaticState(face);
        System.out.println(wrong == 0 ? "the face is as due" : wrong + " differences from the face");
        if (wrong != 0) {
            System.exit(1);
        }
    }

    private static void same(String what, String got, String want) {
        if (!got.equals(want)) {
            wrong++;
            System.out.println(what + ": " + got + ", due is " + want);
        }
    }

    private static Set<String> methodsOf(Class<?> face) {
        Set<String> found = new TreeSet<>();
        for (Method method : face.getDeclaredMethods()) {
            if (method.isSynthetic() || Modifier.isPrivate(method.getModifiers())) {
                continue;
            }
            StringBuilder text = new StringBuilder();
            text.append(Modifier.isPublic(method.getModifiers()) ? "" : "not public: ");
            text.append(Modifier.isStatic(method.getModifiers()) ? "static " : "");
            text.append(method.getReturnType()).append(' ').append(method.getName()).append('(');
            for (int i = 0; i < method.getParameterCount(); i++) {
                text.append(i == 0 ? "" : ",").append(method.getParameterTypes()[i]);
            }
            found.add(text.append(')').toString());
        }
        return found;
    }

    private static Set<String> constantsOf(Class<?> face) throws IllegalAccessException {
        Set<String> found = new TreeSet<>();
        for (Field field : face.getDeclaredFields()) {
            if (!field.isSynthetic() && !Modifier.isPrivate(field.getModifiers())) {
                same(field.getName(), Modifier.toString(field.getModifiers()), "public static final");
                found.add(field.getName() + "=" + field.getInt(null));
            }
        }
        return found;
    }

    private static void noStaticState(Class<?> holder) {
        for (Field field : holder.getDeclaredFields()) {
            boolean isStatic = Modifier.isStatic(field.getModifiers());
            if (isStatic && !Modifier.isFinal(field.getModifiers())) {
                same(holder.getName() + "." + field.getName(), "static, not final", "final");
            }
        }
    }
}
