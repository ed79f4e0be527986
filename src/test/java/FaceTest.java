import java.lang.reflect.Constructor;
import java.lang.reflect.Field;
import java.lang.reflect.Method;
import java.lang.reflect.Modifier;
import java.util.Set;
import java.util.TreeSet;

/** The public face of the document, and nothing beside it. */
final class FaceTest {
    private static final Check CHECK = new Check("FaceTest");
    private static final String O = " throws IndexOutOfBoundsException";
    private static final String A = " throws IllegalArgumentException";
    private static final String OA = O + " IllegalArgumentException";
    private static final String OS = O + " IllegalStateException";
    private static final String AS = A + " IllegalStateException";
    private static final String OAS = OA + " IllegalStateException";
    private static final String[] METHODS = {
        "int piece int int int" + AS, "int weather int" + A, "int snow int" + A, "int plough int" + O,
        "int flood int int" + OAS, "double drill int" + O, "int open int int" + OA, "int limit int int" + OA,
        "int gap int" + A, "int vehicle int int int" + AS, "int load int int int" + OAS, "boolean go int" + OS,
        "boolean turn int" + OS, "int order int int" + OAS, "int pass int" + AS, "int minute", "int told int int" + OA,
        "double thickness int boolean" + O, "int bears int boolean" + O, "int ofVehicle int int" + OA,
        "int why int" + O, "int speed int int" + O, "int minutes int int" + O, "int minutesAnew int int" + O,
        "int kilos int int" + OA, "int kilosAnew int" + O, "long bill"};
    private static final String[] CONSTANTS = {
        "NONE", "LAKE", "RIVER", "PORTAGE", "WHOLE", "DRY", "WET", "CLOSED", "LIGHT", "FULL", "BASE", "ON", "RAMP",
        "MINE", "LOST"};

    public static void main(String[] args) {
        methods();
        fields();
        constructors();
        classesInside();
        CHECK.end();
    }

    private static void methods() {
        Set<String> face = new TreeSet<>();
        Set<String> names = new TreeSet<>();
        Set<String> hidden = new TreeSet<>();
        for (Method method : Icehighway.class.getDeclaredMethods()) {
            if (method.isSynthetic()) {
                continue;
            }
            if (Modifier.isPrivate(method.getModifiers())) {
                hidden.add(method.getName());
                continue;
            }
            CHECK.same(method.getName() + ", modifiers", Modifier.toString(method.getModifiers()), "public");
            StringBuilder text = new StringBuilder(method.getReturnType().getName() + " " + method.getName());
            for (Class<?> one : method.getParameterTypes()) {
                text.append(' ').append(one.getName());
            }
            Class<?>[] thrown = method.getExceptionTypes();
            for (int i = 0; i < thrown.length; i++) {
                text.append(i == 0 ? " throws " : " ").append(thrown[i].getSimpleName());
            }
            face.add(text.toString());
            names.add(method.getName());
        }
        CHECK.same("methods", face, new TreeSet<>(Set.of(METHODS)));
        hidden.retainAll(names);
        CHECK.same("private methods that bear a public one's name", hidden, new TreeSet<String>());
    }

    private static void fields() {
        Set<String> face = new TreeSet<>();
        for (Field field : Icehighway.class.getDeclaredFields()) {
            int modifiers = field.getModifiers();
            if (Modifier.isStatic(modifiers)) {
                CHECK.isTrue(field.getName() + " is final", Modifier.isFinal(modifiers));
            }
            if (!Modifier.isPrivate(modifiers)) {
                CHECK.same(field.getName(), Modifier.toString(modifiers), "public static final");
                CHECK.same(field.getName() + ", type", field.getType(), int.class);
                face.add(field.getName());
            }
        }
        CHECK.same("constants", face, new TreeSet<>(Set.of(CONSTANTS)));
    }

    private static void constructors() {
        Constructor<?>[] all = Icehighway.class.getDeclaredConstructors();
        CHECK.same("constructors", all.length, 1);
        CHECK.same("its modifiers", Modifier.toString(all[0].getModifiers()), "public");
        CHECK.same("its arguments", all[0].getParameterCount(), 0);
        CHECK.same("the class", Modifier.toString(Icehighway.class.getModifiers()), "public final");
        CHECK.same("without a package", Icehighway.class.getPackageName(), "");
        CHECK.same("of nothing else", Icehighway.class.getSuperclass(), Object.class);
    }

    private static void classesInside() {
        Class<?>[] inside = Icehighway.class.getDeclaredClasses();
        CHECK.isTrue("at most twelve classes", inside.length < 12);
        for (Class<?> one : inside) {
            int modifiers = one.getModifiers();
            CHECK.isTrue(one.getName() + " is static", Modifier.isStatic(modifiers));
            CHECK.isTrue(one.getName() + " is not public", !Modifier.isPublic(modifiers));
            int fields = 0;
            for (Field field : one.getDeclaredFields()) {
                fields += Modifier.isStatic(field.getModifiers()) ? 0 : 1;
            }
            CHECK.isTrue(one.getName() + " has few fields: " + fields, fields <= 20);
        }
    }
}
