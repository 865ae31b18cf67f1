import java.lang.reflect.Constructor;
import java.lang.reflect.Field;
import java.lang.reflect.Method;
import java.lang.reflect.Modifier;
import java.util.Set;
import java.util.TreeSet;

/** The face is the document's, with its throws clauses, and nothing but private beside it. */
public final class FaceTest {
    private static final String INDEX = "java.lang.IndexOutOfBoundsException";
    private static final String ARGUMENT = "java.lang.IllegalArgumentException";
    private static final String STATE = "java.lang.IllegalStateException";

    private static final String[] FACE = {
        "int rock(int,int) throws " + INDEX + "," + ARGUMENT,
        "int land(int,int) throws " + INDEX + "," + ARGUMENT + "," + STATE,
        "int lead(int,int) throws " + INDEX + "," + ARGUMENT,
        "int spill(int,int) throws " + INDEX + "," + STATE,
        "void contract(int,int,int) throws " + INDEX + "," + ARGUMENT + "," + STATE,
        "int pass(int,int) throws " + ARGUMENT + "," + STATE,
        "int well(int,int) throws " + INDEX + "," + ARGUMENT + "," + STATE,
        "void drought(int,int,int) throws " + INDEX + "," + ARGUMENT,
        "int share(int) throws " + ARGUMENT,
        "int bottle(int,int) throws " + INDEX + "," + ARGUMENT + "," + STATE,
        "int treat(int,int) throws " + INDEX + "," + STATE,
        "boolean label(int,int) throws " + INDEX + "," + ARGUMENT + "," + STATE,
        "int forbid(int) throws " + INDEX + "," + STATE,
        "int year()",
        "int cellOf(int,int) throws " + INDEX + "," + ARGUMENT,
        "int flow(int) throws " + ARGUMENT,
        "int wellOf(int,int) throws " + INDEX + "," + ARGUMENT,
        "int lotOf(int,int) throws " + INDEX + "," + ARGUMENT,
        "float age(int) throws " + INDEX,
        "int best(int) throws " + INDEX,
        "int from(int,int,int) throws " + INDEX,
        "int fromAnew(int,int,int) throws " + INDEX,
        "int whence(int,int) throws " + INDEX,
        "long sum(int) throws " + ARGUMENT,
    };

    private static final String[] CONSTANTS = {"NONE=-1", "FOREST=0", "GRASS=1", "FIELD=2", "MINERAL=0",
        "SPRING=1", "TABLE=2"};

    private FaceTest() {
    }

    public static void main(String[] args) throws IllegalAccessException {
        Set<String> names = new TreeSet<>();
        methods(names);
        constants();
        constructors();
        insideClasses(names);
        Check.equal("the class is public and final", Modifier.toString(Springward.class.getModifiers()),
                "public final");
        Check.end();
    }

    private static void methods(Set<String> names) {
        Set<String> got = new TreeSet<>();
        for (Method method : Springward.class.getDeclaredMethods()) {
            if (Modifier.isPublic(method.getModifiers())) {
                names.add(method.getName());
                got.add(method.toGenericString().replace("public ", "").replace("Springward.", ""));
            }
        }
        Check.equal("public methods", got.toString(), new TreeSet<>(Set.of(FACE)).toString());
        for (Method method : Springward.class.getDeclaredMethods()) {
            if (!Modifier.isPublic(method.getModifiers())) {
                hidden(method.getName(), method.getModifiers(), names);
            }
        }
    }

    private static void hidden(String name, int modifiers, Set<String> names) {
        Check.equal(name + " is private", "" + Modifier.isPrivate(modifiers), "true");
        Check.equal(name + " has a public method's name", "" + names.contains(name), "false");
    }

    private static void constants() throws IllegalAccessException {
        Set<String> got = new TreeSet<>();
        for (Field field : Springward.class.getDeclaredFields()) {
            int modifiers = field.getModifiers();
            if (Modifier.isPublic(modifiers)) {
                Check.equal(field.getName(), Modifier.toString(modifiers), "public static final");
                got.add(field.getName() + "=" + field.get(null));
            } else {
                Check.equal(field.getName() + " is private", "" + Modifier.isPrivate(modifiers), "true");
            }
            if (Modifier.isStatic(modifiers)) {
                Check.equal(field.getName() + " is final", "" + Modifier.isFinal(modifiers), "true");
            }
        }
        Check.equal("constants", got.toString(), new TreeSet<>(Set.of(CONSTANTS)).toString());
    }

    private static void constructors() {
        Constructor<?>[] all = Springward.class.getDeclaredConstructors();
        Check.equal("constructors", all.length + " " + all[0], "1 public Springward()");
    }

    private static void insideClasses(Set<String> names) {
        for (Class<?> inside : Springward.class.getDeclaredClasses()) {
            Check.equal(inside + " is public", "" + Modifier.isPublic(inside.getModifiers()), "false");
            Check.equal(inside + " is static", "" + Modifier.isStatic(inside.getModifiers()), "true");
            for (Method method : inside.getDeclaredMethods()) {
                Check.equal(inside + "." + method.getName() + " has a public method's name",
                        "" + names.contains(method.getName()), "false");
            }
        }
    }
}
