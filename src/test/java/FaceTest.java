import java.lang.reflect.Field;
import java.lang.reflect.Method;
import java.lang.reflect.Modifier;
import java.util.Arrays;
import java.util.TreeSet;

/** The public face of the document, and the rules 1 and 5 of LANGUAGE.md that can be seen from outside. */
public final class FaceTest {
    private static final String I = "IndexOutOfBoundsException", A = "IllegalArgumentException", S = "IllegalStateException";

    private static final String[] METHODS = {
        "int addMelody(int,int,long) " + I + "," + A + "," + S,
        "int toneAt(int,int) " + I,
        "long shifted(int,int) " + I + "," + A,
        "long turned(int) " + I,
        "boolean areAlike(int,int) " + I,
        "int license(int,int,int) " + I + "," + A + "," + S,
        "boolean setQuiet(int,int,int) " + I + "," + A,
        "int lay(int,int,int,int) " + I + "," + A,
        "int press(int,int) " + I + "," + S,
        "int fault(int) " + I + "," + S,
        "int repair(int) " + I + "," + S,
        "int pass(int) " + A + "," + S,
        "int time() ",
        "int ringing(int) " + I,
        "boolean isSound(int) " + I,
        "int ringsLeft(int,int) " + I,
        "int points(int) " + I,
        "int secondsRung(int) " + I,
        "int quietBroken(int) " + I,
        "int hushed(int) " + I,
        "int faults() ",
        "int faultAt(int) " + I,
    };

    private static final Due due = new Due();

    public static void main(String[] args) {
        due.is("NONE", -1, () -> BellStreet.NONE);
        due.is("NOTHING", 0, () -> BellStreet.NOTHING);
        due.is("RINGS", 1, () -> BellStreet.RINGS);
        due.is("HUSHED", 2, () -> BellStreet.HUSHED);
        due.is("BROKEN", 3, () -> BellStreet.BROKEN);
        due.tells("the class is public and final", true,
            () -> BellStreet.class.getModifiers() == (Modifier.PUBLIC | Modifier.FINAL));
        due.compare("the visible methods", new TreeSet<>(Arrays.asList(METHODS)).toString(), visibleMethods().toString());
        due.compare("the visible fields", "[BROKEN, HUSHED, NONE, NOTHING, RINGS]", visibleFields().toString());
        due.compare("the constructors", "[public BellStreet()]", Arrays.toString(BellStreet.class.getDeclaredConstructors()));
        noHiddenMethodBearsAVisibleName();
        for (Class<?> inside : allClasses()) {
            staticFieldsAreFinal(inside);
        }
        due.end();
    }

    private static Class<?>[] allClasses() {
        Class<?>[] inside = BellStreet.class.getDeclaredClasses();
        Class<?>[] all = Arrays.copyOf(inside, inside.length + 1);
        all[inside.length] = BellStreet.class;
        return all;
    }

    private static String names(Class<?>[] types) {
        return String.join(",", Arrays.stream(types).map(Class::getSimpleName).toArray(String[]::new));
    }

    private static TreeSet<String> visibleMethods() {
        TreeSet<String> found = new TreeSet<>();
        for (Method method : BellStreet.class.getDeclaredMethods()) {
            if (!Modifier.isPrivate(method.getModifiers())) {
                found.add(method.getReturnType() + " " + method.getName() + "(" + names(method.getParameterTypes()) + ") "
                    + names(method.getExceptionTypes()));
            }
        }
        return found;
    }

    private static TreeSet<String> visibleFields() {
        TreeSet<String> found = new TreeSet<>();
        for (Field field : BellStreet.class.getDeclaredFields()) {
            if (!Modifier.isPrivate(field.getModifiers())) {
                found.add(field.getName());
            }
        }
        return found;
    }

    private static void noHiddenMethodBearsAVisibleName() {
        for (Class<?> inside : allClasses()) {
            for (Method method : inside.getDeclaredMethods()) {
                boolean hidden = inside != BellStreet.class || Modifier.isPrivate(method.getModifiers());
                boolean taken = Arrays.stream(METHODS).anyMatch(face -> face.contains(" " + method.getName() + "("));
                due.tells(method + " bears the name of a public method", false, () -> hidden && taken);
            }
        }
    }

    private static void staticFieldsAreFinal(Class<?> inside) {
        for (Field field : inside.getDeclaredFields()) {
            int marks = field.getModifiers();
            due.tells(field + " is static and not final", false, () -> Modifier.isStatic(marks) && !Modifier.isFinal(marks));
        }
    }
}
