import java.lang.reflect.Constructor;
import java.lang.reflect.Field;
import java.lang.reflect.Method;
import java.lang.reflect.Modifier;
import java.util.Set;
import java.util.TreeSet;

/** The class shows the members of the document's public face and no others. */
public final class FaceTest {
    private static final Set<String> FACE = Set.of(
            "public static final int ModelDesk.OK",
            "public static final int ModelDesk.UNBALANCED",
            "public static final int ModelDesk.SINGULAR",
            "public static final int ModelDesk.NONE",
            "public ModelDesk()",
            "public boolean ModelDesk.variable(int,int,int)",
            "public boolean ModelDesk.equation(int,int)",
            "public boolean ModelDesk.drop(int)",
            "public boolean ModelDesk.term(int,int,int,boolean)",
            "public int ModelDesk.matching()",
            "public int ModelDesk.part(int,boolean)",
            "public boolean ModelDesk.good(int,int)",
            "public int ModelDesk.block(int,boolean)",
            "public int ModelDesk.state(int)",
            "public int ModelDesk.tears(int)",
            "public int ModelDesk.step(int)",
            "public int ModelDesk.value(int)",
            "public int ModelDesk.before(int)",
            "public int ModelDesk.gain(int,int)");

    private FaceTest() {
    }

    public static void main(String[] args) {
        Set<String> shown = new TreeSet<>();
        Set<String> hiddenNames = new TreeSet<>();
        Set<String> shownNames = new TreeSet<>();
        for (Field field : ModelDesk.class.getDeclaredFields()) {
            boolean hidden = Modifier.isPrivate(field.getModifiers());
            if (!hidden) {
                shown.add(field.toString());
            }
            boolean constant = Modifier.isFinal(field.getModifiers()) && field.getType() == int.class;
            Due.is(field + ": static ones are int constants",
                    !Modifier.isStatic(field.getModifiers()) || constant, true);
        }
        for (Constructor<?> constructor : ModelDesk.class.getDeclaredConstructors()) {
            shown.add(constructor.toString());
        }
        for (Method method : ModelDesk.class.getDeclaredMethods()) {
            boolean hidden = Modifier.isPrivate(method.getModifiers());
            (hidden ? hiddenNames : shownNames).add(method.getName());
            if (!hidden) {
                shown.add(method.toString());
            }
            Due.is(method + ": at most seven parameters", method.getParameterCount() <= 7, true);
        }
        for (String member : FACE) {
            Due.is(member + ": is there", shown.contains(member), true);
        }
        for (String member : shown) {
            Due.is(member + ": is in the document", FACE.contains(member), true);
        }
        for (String name : hiddenNames) {
            Due.is(name + ": is private alone", shownNames.contains(name), false);
        }
        Due.is("final", Modifier.isFinal(ModelDesk.class.getModifiers()), true);
        Due.is("no nested classes", ModelDesk.class.getDeclaredClasses().length, 0);
        Due.end();
    }
}
