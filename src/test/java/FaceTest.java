import java.lang.reflect.Constructor;
import java.lang.reflect.Field;
import java.lang.reflect.Method;
import java.lang.reflect.Modifier;
import java.util.TreeSet;

/** The face of the class is that of the document, and nothing else of it can be seen. */
final class FaceTest {
    private static final String METHODS = String.join("\n", new TreeSet<>(java.util.List.of(
            "int insert(int,int) throws IllegalArgumentException,IllegalStateException",
            "int append(long,int) throws IllegalArgumentException,IllegalStateException",
            "int delete(int,int) throws IllegalArgumentException",
            "int text(int) throws NoSuchElementException",
            "int diagnostics()",
            "int diagnostic(int,int) throws NoSuchElementException,IllegalArgumentException",
            "int definition(int) throws NoSuchElementException",
            "int type(int) throws NoSuchElementException",
            "int references(int) throws NoSuchElementException",
            "int reference(int,int) throws NoSuchElementException",
            "int members(int) throws NoSuchElementException",
            "int member(int,int) throws NoSuchElementException",
            "int rename(int,long,int) throws NoSuchElementException,IllegalArgumentException,IllegalStateException",
            "int count(int) throws IllegalArgumentException")));

    public static void main(String[] args) {
        Check check = new Check();
        int modifiers = LanguageServer.class.getModifiers();
        check.same("public and final", Boolean.toString(Modifier.isPublic(modifiers) && Modifier.isFinal(modifiers)), "true");
        check.same("INT", LanguageServer.INT, -1);
        check.same("UNKNOWN", LanguageServer.UNKNOWN, -2);
        check.same("methods", methods(), METHODS);
        check.same("fields", fields(), "INT UNKNOWN");
        Constructor<?>[] constructors = LanguageServer.class.getDeclaredConstructors();
        check.same("constructors", constructors.length, 1);
        check.same("constructor", constructors[0].toString(), "public LanguageServer()");
        check.same("private names", privateNamesOfTheFace(), "");
        check.close("FaceTest");
    }

    private static String methods() {
        TreeSet<String> found = new TreeSet<>();
        for (Method method : LanguageServer.class.getDeclaredMethods()) {
            if (!Modifier.isPrivate(method.getModifiers())) {
                found.add(method.getReturnType().getSimpleName() + " " + method.getName()
                        + "(" + names(method.getParameterTypes()) + ")"
                        + (method.getExceptionTypes().length == 0 ? "" : " throws " + names(method.getExceptionTypes())));
            }
        }
        return String.join("\n", found);
    }

    private static String names(Class<?>[] types) {
        StringBuilder all = new StringBuilder();
        for (Class<?> type : types) {
            all.append(all.length() == 0 ? "" : ",").append(type.getSimpleName());
        }
        return all.toString();
    }

    private static String fields() {
        TreeSet<String> found = new TreeSet<>();
        for (Field field : LanguageServer.class.getDeclaredFields()) {
            if (!Modifier.isPrivate(field.getModifiers())) {
                found.add(field.getName());
            }
        }
        return String.join(" ", found);
    }

    /** Methods that bear a name of the face, but are not of it: the language's rules allow none. */
    private static String privateNamesOfTheFace() {
        TreeSet<String> face = new TreeSet<>();
        TreeSet<String> others = new TreeSet<>();
        for (Method method : LanguageServer.class.getDeclaredMethods()) {
            (Modifier.isPublic(method.getModifiers()) ? face : others).add(method.getName());
        }
        for (Class<?> inside : LanguageServer.class.getDeclaredClasses()) {
            for (Method method : inside.getDeclaredMethods()) {
                others.add(method.getName());
            }
        }
        others.retainAll(face);
        return String.join(" ", others);
    }
}
