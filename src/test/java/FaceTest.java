import java.lang.reflect.Constructor;
import java.lang.reflect.Field;
import java.lang.reflect.Method;
import java.lang.reflect.Modifier;
import java.util.Set;
import java.util.TreeSet;

/** The class has the document's face, and no other member that is not private. */
public final class FaceTest {
    private static final String[] FACE = {
        "int append(int,int,int,int,int) IllegalStateException",
        "int load()",
        "int errorPosition()",
        "int count(int) IllegalArgumentException",
        "int family(int,int) IndexOutOfBoundsException IllegalArgumentException",
        "int picture(int,int) IndexOutOfBoundsException IllegalArgumentException",
        "int copy(int,int) IndexOutOfBoundsException",
        "int why(int,int) IndexOutOfBoundsException",
        "double chance(int,int,int) IndexOutOfBoundsException IllegalStateException IllegalArgumentException",
        "int bestTile(int) IndexOutOfBoundsException",
        "int roundsToFind(int) IllegalArgumentException",
        "int leastTrusted()",
        "int sources(int,int) IndexOutOfBoundsException",
        "int wouldGet(int,int) IndexOutOfBoundsException",
        "int waves()",
        "int lost()",
        "int depends(int) IndexOutOfBoundsException",
        "int mostNeeded()",
        "int reach(int) IndexOutOfBoundsException",
        "int wouldSpread()",
        "int bestPair()",
        "float soundness()",
        "int ask(int,int,int) IndexOutOfBoundsException",
        "int round(int) IllegalArgumentException",
        "int harm(int,int) IndexOutOfBoundsException IllegalArgumentException",
        "int repair(int,int) IndexOutOfBoundsException",
        "int wave()",
        "int spread()",
        "int join(int) IllegalArgumentException",
        "int meet(int,int) IndexOutOfBoundsException IllegalArgumentException",
        "int leave(int) IndexOutOfBoundsException",
        "int setPledge(int,int) IndexOutOfBoundsException IllegalArgumentException",
        "int undo() IllegalStateException",
        "void save(int) IndexOutOfBoundsException",
        "int restore(int) IndexOutOfBoundsException IllegalStateException",
        "int writePictures()",
        "int writtenByte(int) IndexOutOfBoundsException",
    };

    private static final String[] CONSTANTS = {
        "NONE -1", "SYNTAX_ERROR -2", "VALUE_ERROR -3", "UNKNOWN -4", "TWICE -5", "NO_ROOM -6", "TOO_MANY -7",
    };

    public static void main(String[] args) throws IllegalAccessException {
        Checks checks = new Checks();
        checks.due("modifiers of the class", Modifier.PUBLIC | Modifier.FINAL, VillagePhotos.class.getModifiers());
        checks.due("methods", new TreeSet<>(Set.of(FACE)), methods(checks));
        checks.due("constants", new TreeSet<>(Set.of(CONSTANTS)), constants(checks));
        Constructor<?>[] made = VillagePhotos.class.getDeclaredConstructors();
        checks.due("constructors", 1, made.length);
        checks.due("arguments of the constructor", 0, made[0].getParameterCount());
        checks.due("constructor is public", true, Modifier.isPublic(made[0].getModifiers()));
        for (Class<?> inside : VillagePhotos.class.getDeclaredClasses()) {
            checks.due(inside + " is static", true, Modifier.isStatic(inside.getModifiers()));
            checks.due(inside + " is public", false, Modifier.isPublic(inside.getModifiers()));
        }
        checks.end("FaceTest");
    }

    private static Set<String> methods(Checks checks) {
        Set<String> publicOnes = new TreeSet<>();
        Set<String> privateNames = new TreeSet<>();
        Set<String> publicNames = new TreeSet<>();
        for (Method method : VillagePhotos.class.getDeclaredMethods()) {
            if (Modifier.isPrivate(method.getModifiers())) {
                privateNames.add(method.getName());
                continue;
            }
            checks.due(method + " is plainly public", Modifier.PUBLIC, method.getModifiers());
            publicOnes.add(signature(method));
            publicNames.add(method.getName());
        }
        privateNames.retainAll(publicNames);
        checks.due("private methods with the name of a public one", Set.of(), privateNames);
        return publicOnes;
    }

    private static String signature(Method method) {
        StringBuilder text = new StringBuilder();
        text.append(method.getReturnType()).append(' ').append(method.getName()).append('(');
        String comma = "";
        for (Class<?> type : method.getParameterTypes()) {
            text.append(comma).append(type);
            comma = ",";
        }
        text.append(')');
        for (Class<?> thrown : method.getExceptionTypes()) {
            text.append(' ').append(thrown.getSimpleName());
        }
        return text.toString();
    }

    private static Set<String> constants(Checks checks) throws IllegalAccessException {
        Set<String> found = new TreeSet<>();
        for (Field field : VillagePhotos.class.getDeclaredFields()) {
            if (Modifier.isPrivate(field.getModifiers())) {
                continue;
            }
            int constant = Modifier.PUBLIC | Modifier.STATIC | Modifier.FINAL;
            checks.due(field + " is a constant", constant, field.getModifiers());
            found.add(field.getName() + " " + field.getInt(null));
        }
        return found;
    }
}
