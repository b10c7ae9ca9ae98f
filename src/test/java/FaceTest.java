import java.lang.reflect.Constructor;
import java.lang.reflect.Field;
import java.lang.reflect.Method;
import java.lang.reflect.Modifier;
import java.util.Arrays;
import java.util.Set;
import java.util.TreeSet;

/** The class shows the document's face and nothing else. */
public final class FaceTest {
    private static final String[] METHODS = {
        "code 0", "make 3", "share 2", "nothing 1", "lump 1", "kind 1", "length 1", "set 3", "thing 4", "hang 3",
        "item 2", "classOf 2", "move 5", "loop 5", "copy 2", "slice 4", "join 3", "update 3", "rotate 2", "sum 1",
        "mean 1", "same 2", "equal 2", "compare 2", "held 1"};

    public static void main(String[] args) {
        Check c = new Check("the face");
        c.due("modifiers of the class", CopyRows.class.getModifiers(), Modifier.PUBLIC | Modifier.FINAL);
        c.due("NONE", CopyRows.NONE, -1);
        c.due("OUTSIDE", CopyRows.OUTSIDE, -2000000001);
        constructors(c);
        fields(c);
        methods(c);
        nested(c);
        Check.end();
    }

    private static void constructors(Check c) {
        Constructor<?>[] all = CopyRows.class.getDeclaredConstructors();
        c.due("how many constructors", all.length, 1);
        c.due("the constructor's modifiers", all[0].getModifiers(), Modifier.PUBLIC);
        c.due("the constructor's parameters", all[0].getParameterCount(), 0);
    }

    private static void fields(Check c) {
        for (Field field : CopyRows.class.getDeclaredFields()) {
            boolean shown = field.getName().equals("NONE") || field.getName().equals("OUTSIDE");
            int modifiers = field.getModifiers();
            c.due("public: " + field.getName(), Modifier.isPublic(modifiers) ? 1 : 0, shown ? 1 : 0);
            c.due("private: " + field.getName(), Modifier.isPrivate(modifiers) ? 1 : 0, shown ? 0 : 1);
            if (Modifier.isStatic(modifiers)) {
                c.due("final: " + field.getName(), Modifier.isFinal(modifiers) ? 1 : 0, 1);
            }
        }
    }

    private static void methods(Check c) {
        Set<String> shown = new TreeSet<>();
        Set<String> names = new TreeSet<>();
        for (Method method : CopyRows.class.getDeclaredMethods()) {
            if (Modifier.isPublic(method.getModifiers())) {
                shown.add(method.getName() + " " + method.getParameterCount());
                names.add(method.getName());
                c.due(method.getName() + " answers an int", method.getReturnType() == int.class ? 1 : 0, 1);
                c.due("modifiers of " + method.getName(), method.getModifiers(), Modifier.PUBLIC);
            }
        }
        c.due("the public methods " + shown, shown.equals(new TreeSet<>(Arrays.asList(METHODS))) ? 1 : 0, 1);
        for (Method method : CopyRows.class.getDeclaredMethods()) {
            if (!Modifier.isPublic(method.getModifiers())) {
                c.due("private: " + method, Modifier.isPrivate(method.getModifiers()) ? 1 : 0, 1);
                c.due("a public name: " + method, names.contains(method.getName()) ? 1 : 0, 0);
            }
        }
    }

    private static void nested(Check c) {
        for (Class<?> inside : CopyRows.class.getDeclaredClasses()) {
            int modifiers = inside.getModifiers();
            c.due("static: " + inside, Modifier.isStatic(modifiers) ? 1 : 0, 1);
            c.due("seen outside: " + inside, modifiers & (Modifier.PUBLIC | Modifier.PROTECTED), 0);
        }
    }
}
