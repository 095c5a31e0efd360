import java.lang.reflect.Constructor;
import java.lang.reflect.Field;
import java.lang.reflect.Method;
import java.lang.reflect.Modifier;
import java.util.Set;
import java.util.TreeSet;

/** The public face: the constants, the constructor and the methods of the document, and nothing beside them. */
public final class FaceTest {
    private static final String[] METHODS = {
        "int war(int,int,int,int)", "int ofPerson(int,int)", "int rule(int,int)", "int decree(int,int,int)",
        "int starch(int,int)", "int ofOffice(int,int)", "int strike(int,int)", "int wash(int)",
        "int fetches(int,int)", "int night(int,int,int,int,int)", "int undoing(int,int,int)",
        "int ways(int,int,int)", "int worn(int,int,int)", "int raid(int,int,int)", "int peace(int)",
        "int reading(int,int)", "int back(int)", "int necks(int)", "int kinds(int)", "int fits(int,int,int,int)",
        "long odds(int,int,int)", "int sheet(int,int,int)", "int lose(int)", "int put(int,int,int)",
        "long cell(int,int,int)", "int copy(int,int,int,int,int)", "int tell(int)", "int salute(int)",
        "int as(int,int)", "int trace()", "int fault()", "int many(int)",
    };
    private static final String[] CONSTANTS = {
        "int UNKNOWN", "int OUTSIDE", "int STATE", "int FULL", "int NONE", "long LOST",
    };

    public static void main(String[] args) {
        Set<String> methods = new TreeSet<>();
        for (Method method : StampRaids.class.getDeclaredMethods()) {
            if (!Modifier.isPrivate(method.getModifiers()) && !method.isSynthetic()) {
                methods.add(told(method));
            }
        }
        same("methods", methods, METHODS);
        Set<String> constants = new TreeSet<>();
        for (Field field : StampRaids.class.getDeclaredFields()) {
            if (!Modifier.isPrivate(field.getModifiers()) && !field.isSynthetic()) {
                constants.add(field.getType().getName() + " " + field.getName());
            }
        }
        same("constants", constants, CONSTANTS);
        Constructor<?>[] made = StampRaids.class.getDeclaredConstructors();
        Due.is("constructors", made.length, 1);
        Due.is("constructor's parameters", made[0].getParameterCount(), 0);
        Due.is("final", Modifier.isFinal(StampRaids.class.getModifiers()) ? 1 : 0, 1);
        Due.is("UNKNOWN", StampRaids.UNKNOWN, -1);
        Due.is("OUTSIDE", StampRaids.OUTSIDE, -2);
        Due.is("STATE", StampRaids.STATE, -3);
        Due.is("FULL", StampRaids.FULL, -4);
        Due.is("NONE", StampRaids.NONE, -9);
        Due.is("LOST", StampRaids.LOST, Long.MIN_VALUE);
        Due.end();
    }

    private static String told(Method method) {
        StringBuilder text = new StringBuilder();
        text.append(method.getReturnType().getName()).append(' ').append(method.getName()).append('(');
        Class<?>[] parameters = method.getParameterTypes();
        for (int j = 0; j < parameters.length; j++) {
            text.append(j == 0 ? "" : ",").append(parameters[j].getName());
        }
        return text.append(')').toString();
    }

    private static void same(String what, Set<String> got, String[] want) {
        Set<String> due = new TreeSet<>(Set.of(want));
        if (!got.equals(due)) {
            System.out.println(what + " are " + got + ", due are " + due);
        }
        Due.is("the same " + what, got.equals(due) ? 1 : 0, 1);
    }
}
