import java.lang.reflect.Constructor;
import java.lang.reflect.Field;
import java.lang.reflect.Method;
import java.lang.reflect.Modifier;
import java.util.Arrays;
import java.util.Set;
import java.util.TreeSet;

/** The public face: exactly the constants, the constructor and the methods of the document. */
public final class FaceTest {
    private static final Check CHECK = new Check();
    private static final String[] METHODS = {
        "set 2", "setting 1", "join 0", "start 2", "hide 2", "seek 0", "walk 1", "cry 2", "dash 1", "player 2",
        "spot 2", "ranked 1", "nextSeeker 0", "total 1", "inSight 0", "couldDash 0", "bestSpot 0",
        "fewestSteps 0", "append 1", "clearText 0", "errorPosition 0", "play 0", "undo 0", "save 0", "restore 0",
    };
    private static final String[] CONSTANTS = {
        "NO_SUCH", "BAD_VALUE", "NOT_POSSIBLE", "LIMIT", "BAD_TEXT", "NONE",
    };

    public static void main(String[] args) throws Exception {
        checkClass();
        checkMethods();
        checkConstants();
        CHECK.finish("FaceTest");
    }

    private static void checkClass() {
        int modifiers = SeekLeague.class.getModifiers();
        CHECK.holds("public and final", Modifier.isPublic(modifiers) && Modifier.isFinal(modifiers));
        Constructor<?>[] constructors = SeekLeague.class.getDeclaredConstructors();
        CHECK.due("constructors", constructors.length, 1);
        CHECK.due("its parameters", constructors[0].getParameterCount(), 0);
        CHECK.holds("it is public", Modifier.isPublic(constructors[0].getModifiers()));
    }

    private static void checkMethods() {
        Set<String> found = new TreeSet<>();
        Set<String> privateNames = new TreeSet<>();
        for (Method method : SeekLeague.class.getDeclaredMethods()) {
            if (Modifier.isPrivate(method.getModifiers())) {
                privateNames.add(method.getName());
            } else {
                found.add(method.getName() + " " + method.getParameterCount());
                CHECK.holds(method.getName() + " is public", Modifier.isPublic(method.getModifiers()));
                CHECK.holds(method.getName() + " returns an int", method.getReturnType() == int.class);
                for (Class<?> type : method.getParameterTypes()) {
                    CHECK.holds(method.getName() + " takes ints", type == int.class);
                }
            }
        }
        CHECK.holds("the methods: " + found, found.equals(new TreeSet<>(Arrays.asList(METHODS))));
        for (String method : METHODS) {
            String name = method.substring(0, method.indexOf(' '));
            CHECK.holds("no private method is named " + name, !privateNames.contains(name));
        }
    }

    private static void checkConstants() throws Exception {
        Set<String> found = new TreeSet<>();
        for (Field field : SeekLeague.class.getDeclaredFields()) {
            int modifiers = field.getModifiers();
            if (!Modifier.isPrivate(modifiers)) {
                found.add(field.getName());
                CHECK.holds(field.getName() + " is a public constant",
                        Modifier.isPublic(modifiers) && Modifier.isStatic(modifiers) && Modifier.isFinal(modifiers));
            }
        }
        CHECK.holds("the constants: " + found, found.equals(new TreeSet<>(Arrays.asList(CONSTANTS))));
        for (int i = 0; i < CONSTANTS.length; i++) {
            CHECK.due(CONSTANTS[i], SeekLeague.class.getField(CONSTANTS[i]).getInt(null), -10001 - i);
        }
    }
}
