import java.io.IOException;
import java.lang.reflect.Constructor;
import java.lang.reflect.Field;
import java.lang.reflect.Member;
import java.lang.reflect.Method;
import java.lang.reflect.Modifier;
import java.nio.file.Files;
import java.nio.file.Path;
import java.util.Set;
import java.util.TreeSet;

/** The public face, the constants, and those rules of LANGUAGE.md that can be read from the class or its text. */
public final class FaceTest {
    private static final String[] FACE = {
        "boiler 1", "inspector 2", "press 2", "inspect 2", "fire 1", "out 1", "plan 3", "repair 1", "pass 1",
        "set 2", "boilerOf 2", "paperOf 2", "inspectorOf 2", "why 2", "account 1", "would 3", "better 1",
        "first 1", "goesOn 1", "share 1", "count 1", "undo 0", "type 1", "clearText 0", "fault 1", "play 0"};

    private static final String[] NOT_IN_THE_TEXT = {
        "import ", "package ", "catch", "finally", "synchronized", "assert ", "->", "::", "Exact(", "System.",
        "Float.", "Double.", "random", "instanceof", "throw"};

    public static void main(String[] args) throws IOException {
        constants();
        publicMembers();
        membersOfTheClasses();
        textOfTheProgram();
        Check.finish();
    }

    private static void constants() {
        Check.due("INVALID_ARGUMENT", BoilerPapers.INVALID_ARGUMENT, -2000000001L);
        Check.due("NOT_POSSIBLE", BoilerPapers.NOT_POSSIBLE, -2000000002L);
        Check.due("LIMIT_REACHED", BoilerPapers.LIMIT_REACHED, -2000000003L);
        Check.due("NOT_FOUND", BoilerPapers.NOT_FOUND, -2000000004L);
    }

    private static void publicMembers() {
        Class<?> face = BoilerPapers.class;
        Check.due("public and final", face.getModifiers(), Modifier.PUBLIC | Modifier.FINAL);
        Check.due("constructors", face.getDeclaredConstructors().length, 1);
        for (Constructor<?> made : face.getDeclaredConstructors()) {
            Check.due("the constructor is public", made.getModifiers(), Modifier.PUBLIC);
            Check.due("its parameters", made.getParameterCount(), 0);
        }
        Set<String> due = new TreeSet<>(Set.of(FACE));
        Set<String> open = new TreeSet<>();
        Set<String> hidden = new TreeSet<>();
        for (Method method : face.getDeclaredMethods()) {
            if (Modifier.isPrivate(method.getModifiers())) {
                hidden.add(method.getName());
            } else if (!method.isSynthetic()) {
                open.add(method.getName() + " " + method.getParameterCount());
                Check.due(method + " is public and of the object", method.getModifiers(), Modifier.PUBLIC);
                Check.due(method + " returns int", method.getReturnType() == int.class ? 1 : 0, 1);
            }
        }
        Check.same("the methods", open.toString(), due.toString());
        for (String call : FACE) {
            String name = call.substring(0, call.indexOf(' '));
            Check.due("private methods with the name " + name, hidden.contains(name) ? 1 : 0, 0);
        }
        Set<String> constants = new TreeSet<>();
        for (Field field : face.getDeclaredFields()) {
            if (!Modifier.isPrivate(field.getModifiers())) {
                constants.add(field.getName());
            }
        }
        Check.same("the constants", constants.toString(),
            new TreeSet<>(Set.of("INVALID_ARGUMENT", "NOT_POSSIBLE", "LIMIT_REACHED", "NOT_FOUND")).toString());
    }

    private static void membersOfTheClasses() {
        for (Class<?> inside : BoilerPapers.class.getDeclaredClasses()) {
            int modifiers = inside.getModifiers();
            String name = inside.getSimpleName();
            Check.due(name + " is static", Modifier.isStatic(modifiers) ? 1 : 0, 1);
            Check.due(name + " is not public", Modifier.isPublic(modifiers) ? 1 : 0, 0);
            Check.due(name + " has few fields", inside.getDeclaredFields().length <= 20 ? 1 : 0, 1);
            for (Member method : inside.getDeclaredMethods()) {
                for (String call : FACE) {
                    boolean same = call.startsWith(method.getName() + " ");
                    Check.due(name + "." + method.getName() + " bears a name of the face", same ? 1 : 0, 0);
                }
            }
            for (Field field : inside.getDeclaredFields()) {
                boolean isState = Modifier.isStatic(field.getModifiers()) && !Modifier.isFinal(field.getModifiers());
                Check.due(name + "." + field.getName() + " is static state", isState ? 1 : 0, 0);
            }
        }
    }

    private static void textOfTheProgram() throws IOException {
        String text = Files.readString(Path.of("src/main/java/BoilerPapers.java"));
        for (String word : NOT_IN_THE_TEXT) {
            Check.due("'" + word + "' in the program", text.contains(word) ? 1 : 0, 0);
        }
        int outside = 0;
        for (int i = 0; i < text.length(); i++) {
            if (text.charAt(i) > 126) {
                outside++;
            }
        }
        Check.due("signs beyond 126 in the program", outside, 0);
    }
}
