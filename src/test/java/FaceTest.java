import java.lang.reflect.Constructor;
import java.lang.reflect.Field;
import java.lang.reflect.Method;
import java.lang.reflect.Modifier;
import java.util.Arrays;
import java.util.TreeSet;
import java.util.stream.Collectors;

/** The class has the document's face and nothing else that can be seen. */
final class FaceTest {
    private static final String[] METHODS = {
        "int append(int,int,int,int,int) IllegalStateException", "int load()", "int errorPosition()",
        "int count(int) IllegalArgumentException", "long unit()",
        "int support(int,int) IndexOutOfBoundsException IllegalArgumentException", "int hinge(int) IndexOutOfBoundsException",
        "int weight(int,int) IndexOutOfBoundsException IllegalArgumentException",
        "int axle(int,int) IndexOutOfBoundsException IllegalArgumentException", "int part(int) IndexOutOfBoundsException",
        "long reactionLine(int,int) IndexOutOfBoundsException", "long shearLine(int,int) IndexOutOfBoundsException",
        "long momentLine(int,int) IndexOutOfBoundsException", "long area(int) IndexOutOfBoundsException",
        "int still(int) IndexOutOfBoundsException", "long gap(int,int) IndexOutOfBoundsException",
        "long reaction(int,int) IndexOutOfBoundsException IllegalArgumentException",
        "long shear(int,int) IndexOutOfBoundsException IllegalArgumentException",
        "long moment(int,int) IndexOutOfBoundsException IllegalArgumentException",
        "int worstForReaction(int,boolean) IndexOutOfBoundsException",
        "int worstForShear(int,boolean) IndexOutOfBoundsException",
        "int worstForMoment(int,boolean) IndexOutOfBoundsException", "int worstSection()",
        "int danger(int) IllegalArgumentException", "int firstDanger()", "int lifting()",
        "double share(int,int) IndexOutOfBoundsException IllegalArgumentException", "float used()",
        "int tryHinge(int,int) IndexOutOfBoundsException IllegalArgumentException",
        "int bestHinge(int) IndexOutOfBoundsException", "int strongest()",
        "int moveSupport(int,int) IndexOutOfBoundsException",
        "int moveHinge(int,int) IndexOutOfBoundsException IllegalArgumentException",
        "int addLoad(int,int) IndexOutOfBoundsException IllegalArgumentException",
        "int dropLoad(int) IndexOutOfBoundsException", "int addAxle(int,int) IllegalArgumentException",
        "int dropAxle(int) IndexOutOfBoundsException",
        "int setBearing(int,int) IndexOutOfBoundsException IllegalArgumentException",
        "int setMost(int) IllegalArgumentException", "int undo() IllegalStateException",
        "void save(int) IndexOutOfBoundsException", "int restore(int) IndexOutOfBoundsException IllegalStateException",
        "int writeBeam()", "int writtenByte(int) IndexOutOfBoundsException"};
    private static final String[] CONSTANTS = {"NONE", "SYNTAX_ERROR", "VALUE_ERROR", "TWICE", "TOO_MANY", "WRONG_HINGES", "FALLS"};

    public static void main(String[] args) {
        Check.same("final and public", Modifier.PUBLIC | Modifier.FINAL, BeamLines.class.getModifiers());
        methods();
        constants();
        Constructor<?>[] constructors = BeamLines.class.getDeclaredConstructors();
        Check.same("constructors", 1, constructors.length);
        Check.same("public constructor", Modifier.PUBLIC, constructors[0].getModifiers());
        Check.end();
    }

    private static void methods() {
        TreeSet<String> due = new TreeSet<>(Arrays.asList(METHODS));
        TreeSet<String> seen = new TreeSet<>();
        TreeSet<String> hidden = new TreeSet<>();
        for (Method method : BeamLines.class.getDeclaredMethods()) {
            if (Modifier.isPrivate(method.getModifiers())) {
                hidden.add(method.getName());
            } else {
                seen.add(signature(method));
            }
        }
        Check.sameText("methods", due.toString(), seen.toString());
        for (String one : due) {
            String name = one.substring(one.indexOf(' ') + 1, one.indexOf('('));
            Check.same("private methods with the name " + name, 0, hidden.contains(name) ? 1 : 0);
        }
    }

    private static String signature(Method method) {
        String types = Arrays.stream(method.getParameterTypes()).map(Class::getName).collect(Collectors.joining(","));
        String thrown = Arrays.stream(method.getExceptionTypes()).map(type -> " " + type.getSimpleName()).collect(Collectors.joining());
        return method.getReturnType() + " " + method.getName() + "(" + types + ")" + thrown;
    }

    private static void constants() {
        for (Field field : BeamLines.class.getDeclaredFields()) {
            if (!Modifier.isPrivate(field.getModifiers())) {
                Check.same(field.getName(), 1, Arrays.asList(CONSTANTS).contains(field.getName()) ? 1 : 0);
            }
            if (Modifier.isStatic(field.getModifiers())) {
                Check.same(field.getName() + " is final", 1, Modifier.isFinal(field.getModifiers()) ? 1 : 0);
            }
        }
        Check.same("NONE", -1, BeamLines.NONE);
        Check.same("SYNTAX_ERROR", -2, BeamLines.SYNTAX_ERROR);
        Check.same("VALUE_ERROR", -3, BeamLines.VALUE_ERROR);
        Check.same("TWICE", -4, BeamLines.TWICE);
        Check.same("TOO_MANY", -5, BeamLines.TOO_MANY);
        Check.same("WRONG_HINGES", -6, BeamLines.WRONG_HINGES);
        Check.same("FALLS", -7, BeamLines.FALLS);
    }
}
