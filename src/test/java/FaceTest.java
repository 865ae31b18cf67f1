import java.lang.reflect.Constructor;
import java.lang.reflect.Field;
import java.lang.reflect.Method;
import java.lang.reflect.Modifier;
import java.util.ArrayList;
import java.util.List;
import java.util.Set;
import java.util.TreeSet;
import java.util.regex.Matcher;
import java.util.regex.Pattern;

/** The face is the document's, with its throws clauses, and nothing but private beside it. */
public final class FaceTest {
    private static final Pattern METHOD =
            Pattern.compile("public (\\w+) (\\w+)\\(([^)]*)\\)(?: throws ([^;]+))?;");
    private static final Pattern CONSTANTS = Pattern.compile("public static final int ([^;]+);");

    private FaceTest() {
    }

    public static void main(String[] args) throws IllegalAccessException {
        Doc.under("The public face");
        everyLineIsRead();
        Set<String> names = new TreeSet<>();
        methods(names);
        constants();
        constructors();
        insideClasses(names);
        sizes();
        Check.equal("the class is public and final", Modifier.toString(Springward.class.getModifiers()),
                "public final");
        Doc.end();
    }

    private static void everyLineIsRead() {
        for (String line : Doc.face()) {
            boolean isRead = METHOD.matcher(line).matches() || CONSTANTS.matcher(line).matches()
                    || line.equals("public final class Springward {") || line.equals("public Springward();")
                    || line.equals("}");
            Check.equal("the face has the line " + line, "" + isRead, "true");
        }
    }

    /** The methods as the document has them, in the words of Method.toGenericString. */
    private static Set<String> methodsOfTheDocument() {
        Set<String> due = new TreeSet<>();
        for (String line : Doc.face()) {
            Matcher method = METHOD.matcher(line);
            if (method.matches()) {
                String types = method.group(3).replaceAll("(\\w+) \\w+", "$1").replace(" ", "");
                String listed = method.group(4) == null ? ""
                        : " throws java.lang." + method.group(4).replace(", ", ",java.lang.");
                due.add(method.group(1) + " " + method.group(2) + "(" + types + ")" + listed);
            }
        }
        return due;
    }

    private static Set<String> constantsOfTheDocument() {
        Set<String> due = new TreeSet<>();
        for (String line : Doc.face()) {
            Matcher constants = CONSTANTS.matcher(line);
            if (constants.matches()) {
                due.addAll(List.of(constants.group(1).replace(" = ", "=").split(", ")));
            }
        }
        return due;
    }

    private static void methods(Set<String> names) {
        Set<String> got = new TreeSet<>();
        for (Method method : Springward.class.getDeclaredMethods()) {
            if (Modifier.isPublic(method.getModifiers())) {
                names.add(method.getName());
                got.add(method.toGenericString().replace("public ", "").replace("Springward.", ""));
            }
        }
        Check.equal("public methods", got.toString(), methodsOfTheDocument().toString());
        Check.equal("how many methods", "" + got.size(), "24");
        for (Method method : Springward.class.getDeclaredMethods()) {
            if (!Modifier.isPublic(method.getModifiers())) {
                hidden(method.getName(), method.getModifiers(), names);
            }
        }
    }

    private static void hidden(String name, int modifiers, Set<String> names) {
        Check.equal(name + " is private", "" + Modifier.isPrivate(modifiers), "true");
        Check.equal(name + " has a public method's name", "" + names.contains(name), "false");
    }

    private static void constants() throws IllegalAccessException {
        Set<String> got = new TreeSet<>();
        for (Field field : Springward.class.getDeclaredFields()) {
            int modifiers = field.getModifiers();
            if (Modifier.isPublic(modifiers)) {
                Check.equal(field.getName(), Modifier.toString(modifiers) + " " + field.getType(),
                        "public static final int");
                got.add(field.getName() + "=" + field.get(null));
            } else {
                Check.equal(field.getName() + " is private", "" + Modifier.isPrivate(modifiers), "true");
            }
            if (Modifier.isStatic(modifiers)) {
                Check.equal(field.getName() + " is final", "" + Modifier.isFinal(modifiers), "true");
            }
        }
        Check.equal("constants", got.toString(), constantsOfTheDocument().toString());
        Check.equal("how many constants", "" + got.size(), "7");
    }

    private static void constructors() {
        Constructor<?>[] all = Springward.class.getDeclaredConstructors();
        Check.equal("constructors", all.length + " " + all[0], "1 public Springward()");
    }

    private static void insideClasses(Set<String> names) {
        for (Class<?> inside : Springward.class.getDeclaredClasses()) {
            Check.equal(inside + " is public", "" + Modifier.isPublic(inside.getModifiers()), "false");
            Check.equal(inside + " is static", "" + Modifier.isStatic(inside.getModifiers()), "true");
            for (Method method : inside.getDeclaredMethods()) {
                Check.equal(inside + "." + method.getName() + " has a public method's name",
                        "" + names.contains(method.getName()), "false");
            }
        }
    }
    /** LANGUAGE.md's rules 5 and 11, in all classes. */
    private static void sizes() {
        List<Class<?>> all = new ArrayList<>(List.of(Springward.class.getDeclaredClasses()));
        all.add(Springward.class);
        Check.equal(all.size() + " classes are some twelve at most", "" + (all.size() <= 12), "true");
        for (Class<?> each : all) {
            int fields = 0;
            for (Field field : each.getDeclaredFields()) {
                if (Modifier.isStatic(field.getModifiers())) {
                    String constant = Modifier.isFinal(field.getModifiers()) + " " + field.getType();
                    Check.equal(each + "." + field.getName() + " is a constant", constant, "true int");
                } else {
                    fields++;
                }
            }
            Check.equal(fields + " fields of " + each + " are some twenty at most", "" + (fields <= 20), "true");
            for (Method method : each.getDeclaredMethods()) {
                Check.equal(method + " takes seven at most", "" + (method.getParameterCount() <= 7), "true");
            }
        }
    }
}
