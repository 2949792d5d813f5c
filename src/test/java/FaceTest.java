import java.lang.reflect.Constructor;
import java.lang.reflect.Field;
import java.lang.reflect.Method;
import java.lang.reflect.Modifier;
import java.util.Arrays;
import java.util.Set;
import java.util.TreeSet;

/** The public face: just the document's constant, constructor and methods, with what they throw. */
public final class FaceTest {
    private static final Due DUE = new Due();

    private static final String[] FACE = {
        "int feed(int,int,int,int,int) UnsupportedOperationException",
        "void end(int) IllegalArgumentException",
        "int read()",
        "int fault()",
        "void make(int,int,int,int,boolean) IllegalArgumentException",
        "int about(int) IllegalStateException IllegalArgumentException",
        "int sample(int,int,int) IllegalStateException IndexOutOfBoundsException",
        "void set(int,int,int,int) IllegalStateException IndexOutOfBoundsException IllegalArgumentException",
        "void fill(int,int,int,int,int,int) IllegalStateException IndexOutOfBoundsException IllegalArgumentException",
        "int colour(int,int,int) IllegalStateException IllegalArgumentException UnsupportedOperationException",
        "int ofColour(int,int) IllegalStateException IndexOutOfBoundsException",
        "int thin(int,int,int) IllegalStateException IllegalArgumentException UnsupportedOperationException",
        "int ofThin(int) IllegalStateException IndexOutOfBoundsException",
        "int filter(int) IllegalStateException IndexOutOfBoundsException",
        "int write(boolean) IllegalStateException",
        "int byteAt(int) IndexOutOfBoundsException",
        "void spoil(int,int) IndexOutOfBoundsException",
        "void mend(int,int) IndexOutOfBoundsException",
    };

    public static void main(String[] args) {
        Class<?> face = PictureFile.class;
        DUE.that("public and final", Modifier.isPublic(face.getModifiers()) && Modifier.isFinal(face.getModifiers()));
        methods(face);
        for (Field field : face.getDeclaredFields()) {
            boolean none = field.getName().equals("NONE");
            DUE.that("field " + field.getName(), none == !Modifier.isPrivate(field.getModifiers()));
        }
        Constructor<?>[] constructors = face.getDeclaredConstructors();
        DUE.same("constructors", constructors.length, 1);
        DUE.that("it is public", Modifier.isPublic(constructors[0].getModifiers()));
        DUE.same("its parameters", constructors[0].getParameterCount(), 0);
        for (Class<?> inside : face.getDeclaredClasses()) {
            int modifiers = inside.getModifiers();
            DUE.that(inside.getName() + " is static and not public",
                Modifier.isStatic(modifiers) && !Modifier.isPublic(modifiers) && !Modifier.isProtected(modifiers));
        }
        DUE.finish();
    }

    private static void methods(Class<?> face) {
        Set<String> due = new TreeSet<>(Arrays.asList(FACE));
        Set<String> names = new TreeSet<>();
        for (String line : FACE) {
            names.add(line.substring(line.indexOf(' ') + 1, line.indexOf('(')));
        }
        for (Method method : face.getDeclaredMethods()) {
            if (Modifier.isPrivate(method.getModifiers())) {
                DUE.that("private " + method.getName(), !names.contains(method.getName()));
            } else {
                DUE.that(text(method) + " is of the face", Modifier.isPublic(method.getModifiers()) && due.remove(text(method)));
            }
        }
        DUE.that("all of the face is there, but " + due, due.isEmpty());
    }

    private static String text(Method method) {
        StringBuilder text = new StringBuilder(method.getReturnType().getSimpleName());
        text.append(' ').append(method.getName()).append('(');
        for (Class<?> type : method.getParameterTypes()) {
            text.append(text.charAt(text.length() - 1) == '(' ? "" : ",").append(type.getSimpleName());
        }
        text.append(')');
        for (Class<?> type : method.getExceptionTypes()) {
            text.append(' ').append(type.getSimpleName());
        }
        return text.toString();
    }
}
