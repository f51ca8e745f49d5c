import java.io.IOException;
import java.lang.reflect.Constructor;
import java.lang.reflect.Field;
import java.lang.reflect.Method;
import java.lang.reflect.Modifier;
import java.nio.file.Files;
import java.nio.file.Path;
import java.util.ArrayList;
import java.util.List;
import java.util.TreeSet;

/** The class has the face that ../shared/DOC.md shows, and rule 1 of ../shared/LANGUAGE.md holds. */
public final class FaceTest {
    private final Expect expect = new Expect();
    private final TreeSet<String> names = new TreeSet<>();

    public static void main(String[] arguments) throws IOException {
        FaceTest test = new FaceTest();
        test.methods();
        test.otherMembers();
        test.classesInside();
        test.expect.end();
    }

    private void methods() throws IOException {
        expect.part("The public face");
        List<String> dues = new ArrayList<>();
        for (String line : Files.readAllLines(Path.of("../shared/DOC.md"))) {
            if (line.startsWith("    public ") && !line.contains("RepairBarrows(")) {
                dues.add(withoutNames(line.trim().replace(";", "")));
            }
        }
        List<String> answers = new ArrayList<>();
        for (Method method : RepairBarrows.class.getDeclaredMethods()) {
            if (Modifier.isPublic(method.getModifiers())) {
                answers.add(signature(method));
                names.add(method.getName());
            }
        }
        expect.same("number of methods", 51, dues.size());
        expect.same("number of public methods", dues.size(), answers.size());
        for (String due : dues) {
            expect.same(due, true, answers.contains(due));
        }
    }

    /** A parameter is its type and its name: only the type is kept. */
    private static String withoutNames(String line) {
        return line.replaceAll("(int|char) \\w+([,)])", "$1$2");
    }

    private static String signature(Method method) {
        StringBuilder text = new StringBuilder("public " + method.getReturnType() + " " + method.getName() + "(");
        appendNames(text, method.getParameterTypes());
        text.append(')');
        if (method.getExceptionTypes().length > 0) {
            appendNames(text.append(" throws "), method.getExceptionTypes());
        }
        return text.toString();
    }

    private static void appendNames(StringBuilder text, Class<?>[] types) {
        for (int i = 0; i < types.length; i++) {
            text.append(i > 0 ? ", " : "").append(types[i].getSimpleName());
        }
    }

    private void otherMembers() {
        expect.part("Rule 1: no other member that is not private");
        expect.same("the class is public and final", Modifier.PUBLIC | Modifier.FINAL,
                RepairBarrows.class.getModifiers());
        expect.same("constructors", 1, RepairBarrows.class.getDeclaredConstructors().length);
        for (Constructor<?> constructor : RepairBarrows.class.getDeclaredConstructors()) {
            expect.same("the constructor is public", true, Modifier.isPublic(constructor.getModifiers()));
            expect.same("its parameters", 0, constructor.getParameterCount());
        }
        for (Field field : RepairBarrows.class.getDeclaredFields()) {
            expect.same(field.getName() + " is private", true, Modifier.isPrivate(field.getModifiers()));
        }
        for (Method method : RepairBarrows.class.getDeclaredMethods()) {
            int modifiers = method.getModifiers();
            expect.same(method.getName(), true, Modifier.isPublic(modifiers) || Modifier.isPrivate(modifiers));
        }
    }

    private void classesInside() {
        expect.part("Rule 1: no private method bears the name of a public one");
        List<Class<?>> all = new ArrayList<>(List.of(RepairBarrows.class.getDeclaredClasses()));
        expect.same("some twelve classes at most", true, all.size() < 12);
        for (Class<?> inside : all) {
            int modifiers = inside.getModifiers();
            expect.same(inside.getSimpleName() + " is static", true, Modifier.isStatic(modifiers));
            expect.same(inside.getSimpleName() + " is not public", false, Modifier.isPublic(modifiers));
        }
        all.add(RepairBarrows.class);
        for (Class<?> owner : all) {
            for (Method method : owner.getDeclaredMethods()) {
                boolean isPrivate = Modifier.isPrivate(method.getModifiers());
                expect.same(owner.getSimpleName() + "." + method.getName(), false,
                        isPrivate && names.contains(method.getName()));
            }
        }
    }
}
