import java.lang.reflect.Constructor;
import java.lang.reflect.Field;
import java.lang.reflect.Method;
import java.lang.reflect.Modifier;
import java.util.Arrays;
import java.util.TreeSet;

/** The face is the document's and nothing more (rule 1 of LANGUAGE.md), and the fields are few (rules 5 and 11). */
public final class FaceTest {
    private static final String[] FACE = {
        "boolean script(int) throws IllegalArgumentException",
        "boolean signed(int) throws IllegalArgumentException",
        "int end(int) throws IllegalArgumentException",
        "int feed(int, int, int, int, int) throws IllegalStateException",
        "int hash(int) throws IllegalArgumentException",
        "int submit() throws IllegalStateException",
        "int tip(int) throws IllegalArgumentException",
        "long count(int) throws IllegalArgumentException",
        "long digest()",
        "long unspent(int) throws IllegalArgumentException, NoSuchElementException"};

    public static void main(String[] args) {
        Checks checks = new Checks("FaceTest");
        Class<?> face = CoinKeeper.class;
        checks.equal("modifiers", face.getModifiers(), Modifier.PUBLIC | Modifier.FINAL);
        TreeSet<String> seen = new TreeSet<>();
        TreeSet<String> names = new TreeSet<>();
        for (Method method : face.getDeclaredMethods()) {
            if (!Modifier.isPrivate(method.getModifiers())) {
                seen.add(described(method));
                names.add(method.getName());
                checks.equal(method.getName() + " is public alone", method.getModifiers(), Modifier.PUBLIC);
            }
        }
        checks.equal("methods", seen.toString(), new TreeSet<>(Arrays.asList(FACE)).toString());
        for (Method method : face.getDeclaredMethods()) {
            checks.that(method.getName() + " is not private, too",
                    !Modifier.isPrivate(method.getModifiers()) || !names.contains(method.getName()));
        }
        Constructor<?>[] made = face.getDeclaredConstructors();
        checks.equal("constructors", made.length, 1);
        checks.equal("constructor", made[0].getParameterCount(), 0);
        checks.that("constructor is public", Modifier.isPublic(made[0].getModifiers()));
        lookAtFields(checks, face);
        for (Class<?> inside : face.getDeclaredClasses()) {
            checks.that(inside.getName() + " is static", Modifier.isStatic(inside.getModifiers()));
            lookAtFields(checks, inside);
        }
        checks.that("classes", face.getDeclaredClasses().length <= 12);
        checks.close();
    }

    private static String described(Method method) {
        StringBuilder text = new StringBuilder();
        text.append(method.getReturnType().getSimpleName()).append(' ').append(method.getName()).append('(');
        for (int i = 0; i < method.getParameterCount(); i++) {
            text.append(i == 0 ? "" : ", ").append(method.getParameterTypes()[i].getSimpleName());
        }
        text.append(')');
        for (int i = 0; i < method.getExceptionTypes().length; i++) {
            text.append(i == 0 ? " throws " : ", ").append(method.getExceptionTypes()[i].getSimpleName());
        }
        return text.toString();
    }

    private static void lookAtFields(Checks checks, Class<?> of) {
        int fields = 0;
        for (Field field : of.getDeclaredFields()) {
            int modifiers = field.getModifiers();
            fields += Modifier.isStatic(modifiers) ? 0 : 1;
            checks.that(field + " is final", !Modifier.isStatic(modifiers) || Modifier.isFinal(modifiers));
            checks.that(field + " is hidden", of != CoinKeeper.class || Modifier.isPrivate(modifiers));
        }
        checks.that(of + " has some twenty fields", fields <= 21);
    }
}
