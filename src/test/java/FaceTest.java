import java.lang.reflect.Constructor;
import java.lang.reflect.Field;
import java.lang.reflect.Method;
import java.lang.reflect.Modifier;
import java.util.ArrayList;
import java.util.Arrays;
import java.util.Collections;
import java.util.HashSet;
import java.util.List;
import java.util.Set;

/** The public face is the document's, and nothing else can be seen from outside. */
final class FaceTest {
    private static final String[] FACE = {
        "boolean type(long,int)",
        "void set(int) throws IndexOutOfBoundsException IllegalArgumentException",
        "void multiply() throws IllegalArgumentException",
        "void hash()",
        "void stream(long,int) throws IllegalArgumentException",
        "void tag() throws IllegalArgumentException",
        "int out(int) throws IndexOutOfBoundsException",
        "void begin(int) throws NoSuchElementException IllegalStateException",
        "void send(int) throws NoSuchElementException IllegalArgumentException IllegalStateException",
        "int come(int) throws NoSuchElementException",
        "int run(int) throws IllegalArgumentException",
        "int packet(int,int,int) throws NoSuchElementException IndexOutOfBoundsException",
        "void damage(int,int,int,int) throws NoSuchElementException IndexOutOfBoundsException"
            + " IllegalArgumentException",
        "int got(int,int) throws NoSuchElementException IndexOutOfBoundsException",
        "int about(int,int) throws NoSuchElementException IndexOutOfBoundsException",
        "int session(int,int) throws NoSuchElementException IndexOutOfBoundsException IllegalStateException",
    };

    public static void main(String[] args) {
        Check check = new Check();
        Class<?> face = SealedWire.class;
        check.isTrue("the class is public and final",
                Modifier.isPublic(face.getModifiers()) && Modifier.isFinal(face.getModifiers()));
        Constructor<?>[] constructors = face.getDeclaredConstructors();
        check.due("constructors", constructors.length, 1);
        check.isTrue("the constructor is public and takes nothing",
                Modifier.isPublic(constructors[0].getModifiers()) && constructors[0].getParameterCount() == 0);
        List<String> seen = new ArrayList<>();
        Set<String> hidden = new HashSet<>();
        for (Method method : face.getDeclaredMethods()) {
            if (Modifier.isPrivate(method.getModifiers())) {
                hidden.add(method.getName());
            } else {
                seen.add(describe(method));
            }
        }
        List<String> due = new ArrayList<>(Arrays.asList(FACE));
        Collections.sort(due);
        Collections.sort(seen);
        check.due("the face", String.join("; ", seen), String.join("; ", due));
        for (String line : FACE) {
            String name = line.substring(line.indexOf(' ') + 1, line.indexOf('('));
            check.isTrue("no private method is named " + name, !hidden.contains(name));
        }
        for (Field field : face.getDeclaredFields()) {
            check.isTrue(field.getName() + " is private", Modifier.isPrivate(field.getModifiers()));
        }
        for (Class<?> inside : face.getDeclaredClasses()) {
            check.isTrue(inside.getName() + " is static", Modifier.isStatic(inside.getModifiers()));
        }
        check.close();
    }

    private static String describe(Method method) {
        StringBuilder text = new StringBuilder();
        text.append(method.getReturnType().getName()).append(' ').append(method.getName()).append('(');
        String comma = "";
        for (Class<?> type : method.getParameterTypes()) {
            text.append(comma).append(type.getName());
            comma = ",";
        }
        text.append(')');
        String before = " throws ";
        for (Class<?> type : method.getExceptionTypes()) {
            text.append(before).append(type.getSimpleName());
            before = " ";
        }
        return text.toString();
    }
}
