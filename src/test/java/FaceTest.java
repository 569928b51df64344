import java.lang.reflect.Constructor;
import java.lang.reflect.Field;
import java.lang.reflect.Method;
import java.lang.reflect.Modifier;
import java.util.TreeSet;

/** The public face: every constant, constructor and method with its throws clause, and nothing besides. */
public final class FaceTest {
    private static final String INDEX = "IndexOutOfBoundsException ";
    private static final String ARGUMENT = "IllegalArgumentException ";
    private static final String STATE = "IllegalStateException ";

    public static void main(String[] args) {
        TreeSet<String> due = new TreeSet<>();
        due.add("int layover(int int ) " + INDEX + ARGUMENT);
        due.add("int relief(int ) " + INDEX);
        due.add("int trip(int int int int int ) " + ARGUMENT + STATE);
        due.add("int shift(int int ) " + INDEX + ARGUMENT + STATE);
        due.add("int set(int int ) " + INDEX + ARGUMENT);
        due.add("int follow(int int ) " + INDEX);
        due.add("int part(int ) " + INDEX + STATE);
        due.add("int blockAll() ");
        due.add("int fail(int ) " + INDEX + STATE);
        due.add("int append(int ) " + ARGUMENT + STATE);
        due.add("int clearBuffer() ");
        due.add("int firstError() ");
        due.add("int load() " + ARGUMENT + STATE);
        due.add("int keep(int ) " + ARGUMENT);
        due.add("int goBack(int ) " + ARGUMENT + STATE);
        due.add("int undo() " + STATE);
        due.add("int terminalOf(int int ) " + INDEX + ARGUMENT);
        due.add("int tripOf(int int ) " + INDEX + ARGUMENT);
        due.add("int blockOf(int int ) " + INDEX + ARGUMENT);
        due.add("int duty(int int int ) " + INDEX + ARGUMENT);
        due.add("int count(int ) " + ARGUMENT);
        due.add("int setting(int ) " + INDEX);
        due.add("int whyNot(int int ) " + INDEX);
        due.add("int ifTrip(int int int int int ) " + ARGUMENT);
        due.add("int bestTime(int int ) " + INDEX + ARGUMENT + STATE);
        due.add("int ifFailed(int ) " + INDEX + STATE);
        due.add("double drivenShare() ");
        due.add("long digest() ");
        Check.dueText("the public methods", methods().toString(), due.toString());
        Check.dueText("the constants", constants(), "public static final int NONE");
        Check.due("NONE", BusBlocks.NONE, -1);
        constructor();
        Check.due("the class is public and final",
            BusBlocks.class.getModifiers(), Modifier.PUBLIC | Modifier.FINAL);
        for (Class<?> inside : BusBlocks.class.getDeclaredClasses()) {
            Check.due(inside + " is static and not public",
                inside.getModifiers() & (Modifier.STATIC | Modifier.PUBLIC | Modifier.PROTECTED), Modifier.STATIC);
        }
        privateNames();
        sizes();
        Check.finish();
    }

    private static TreeSet<String> methods() {
        TreeSet<String> found = new TreeSet<>();
        for (Method method : BusBlocks.class.getDeclaredMethods()) {
            if (!Modifier.isPrivate(method.getModifiers()) && !method.isSynthetic()) {
                StringBuilder text = new StringBuilder();
                text.append(method.getReturnType()).append(' ').append(method.getName()).append('(');
                for (Class<?> parameter : method.getParameterTypes()) {
                    text.append(parameter).append(' ');
                }
                text.append(") ");
                for (Class<?> thrown : method.getExceptionTypes()) {
                    text.append(thrown.getSimpleName()).append(' ');
                }
                found.add(text.toString());
                Check.due(method.getName() + " is public alone", method.getModifiers(), Modifier.PUBLIC);
            }
        }
        return found;
    }

    private static String constants() {
        StringBuilder found = new StringBuilder();
        for (Field field : BusBlocks.class.getDeclaredFields()) {
            if (!Modifier.isPrivate(field.getModifiers())) {
                found.append(Modifier.toString(field.getModifiers())).append(' ');
                found.append(field.getType()).append(' ').append(field.getName());
            }
        }
        return found.toString();
    }

    private static void constructor() {
        Constructor<?>[] found = BusBlocks.class.getDeclaredConstructors();
        Check.due("constructors", found.length, 1);
        Check.due("the constructor's parameters", found[0].getParameterCount(), 0);
        Check.due("the constructor is public", found[0].getModifiers(), Modifier.PUBLIC);
    }

    /** Rule 11 of the language: seven parameters, twelve classes, twenty fields beside the constants; rule 5: no static state. */
    private static void sizes() {
        Class<?>[] inside = BusBlocks.class.getDeclaredClasses();
        Check.due("more than twelve classes", inside.length + 1 > 12 ? 1 : 0, 0);
        sizesOf(BusBlocks.class);
        for (Class<?> each : inside) {
            sizesOf(each);
        }
    }

    private static void sizesOf(Class<?> type) {
        int fields = 0;
        for (Field field : type.getDeclaredFields()) {
            boolean isStatic = Modifier.isStatic(field.getModifiers());
            fields += isStatic ? 0 : 1;
            Check.due(type + ": static state in " + field, isStatic && !Modifier.isFinal(field.getModifiers()) ? 1 : 0, 0);
        }
        Check.due(type + " has more than twenty fields", fields > 20 ? 1 : 0, 0);
        for (Method method : type.getDeclaredMethods()) {
            Check.due(method + " has more than seven parameters", method.getParameterCount() > 7 ? 1 : 0, 0);
        }
    }

    /** Rule 1 of the language: no private method, of the classes inside either, bears the name of a public one. */
    private static void privateNames() {
        TreeSet<String> open = new TreeSet<>();
        for (Method method : BusBlocks.class.getDeclaredMethods()) {
            if (Modifier.isPublic(method.getModifiers())) {
                open.add(method.getName());
            }
        }
        privateNamesOf(BusBlocks.class, open);
        for (Class<?> inside : BusBlocks.class.getDeclaredClasses()) {
            privateNamesOf(inside, open);
        }
    }

    private static void privateNamesOf(Class<?> type, TreeSet<String> open) {
        for (Method method : type.getDeclaredMethods()) {
            boolean hidden = Modifier.isPrivate(method.getModifiers());
            Check.due(type + " has a private method named " + method.getName(),
                hidden && open.contains(method.getName()) ? 1 : 0, 0);
        }
    }
}
