import java.io.IOException;
import java.lang.reflect.Constructor;
import java.lang.reflect.Field;
import java.lang.reflect.Method;
import java.lang.reflect.Modifier;
import java.nio.file.Files;
import java.nio.file.Path;
import java.util.ArrayList;
import java.util.Arrays;
import java.util.List;
import java.util.stream.Collectors;

/** The class has the document's face and no other member that can be seen; README.md tells this face. */
public final class FaceTest {
    private static final List<String> FACE = List.of(
            "void format() IllegalStateException ArithmeticException",
            "int mount() IllegalStateException UnsupportedOperationException ArithmeticException",
            "void unmount() IllegalStateException ArithmeticException",
            "void fuse(int int) IllegalArgumentException",
            "void crash()",
            "int sync() IllegalStateException ArithmeticException",
            "void checkpoint() IllegalStateException ArithmeticException",
            "int create(int int boolean) IllegalArgumentException IllegalStateException NoSuchElementException UnsupportedOperationException ArithmeticException",
            "void link(int int int) IllegalArgumentException IllegalStateException NoSuchElementException UnsupportedOperationException ArithmeticException",
            "void unlink(int int) IllegalArgumentException IllegalStateException NoSuchElementException UnsupportedOperationException ArithmeticException",
            "void rename(int int int int) IllegalArgumentException IllegalStateException NoSuchElementException UnsupportedOperationException ArithmeticException",
            "void write(int int int) IllegalArgumentException IllegalStateException NoSuchElementException UnsupportedOperationException ArithmeticException",
            "void truncate(int int) IllegalArgumentException IllegalStateException NoSuchElementException UnsupportedOperationException ArithmeticException",
            "int read(int int) IllegalArgumentException IllegalStateException NoSuchElementException UnsupportedOperationException",
            "int lookup(int int) IllegalArgumentException IllegalStateException NoSuchElementException UnsupportedOperationException",
            "int raw(int int) IllegalArgumentException",
            "void tamper(int int int) IllegalArgumentException IllegalStateException",
            "int check(int) IllegalArgumentException IllegalStateException",
            "int count(int)");

    public static void main(String[] args) throws IOException {
        List<String> faults = new ArrayList<>();
        if (!Modifier.isPublic(ExtVolume.class.getModifiers()) || !Modifier.isFinal(ExtVolume.class.getModifiers())) {
            faults.add("the class isn't public and final");
        }
        List<String> seen = new ArrayList<>();
        for (Method method : ExtVolume.class.getDeclaredMethods()) {
            if (!Modifier.isPrivate(method.getModifiers())) {
                seen.add(describe(method));
            } else if (FACE.stream().anyMatch(f -> f.contains(" " + method.getName() + "("))) {
                faults.add("a private method bears a public name: " + method);
            }
        }
        FACE.stream().filter(f -> !seen.contains(f)).forEach(f -> faults.add("missing: " + f));
        seen.stream().filter(s -> !FACE.contains(s)).forEach(s -> faults.add("not in the document: " + s));
        for (Field field : ExtVolume.class.getDeclaredFields()) {
            if (!Modifier.isPrivate(field.getModifiers())) {
                faults.add("a field that can be seen: " + field);
            }
        }
        Constructor<?>[] constructors = ExtVolume.class.getDeclaredConstructors();
        if (constructors.length != 1 || constructors[0].getParameterCount() != 0) {
            faults.add("not just the one constructor");
        }
        if (!Files.readString(Path.of("README.md")).contains(faceIn(Files.readString(Path.of("../shared/DOC.md"))))) {
            faults.add("README.md has another face than the document");
        }
        faults.forEach(System.out::println);
        System.out.println(faults.size() + " faults of the face");
        if (!faults.isEmpty()) {
            System.exit(1);
        }
    }

    private static String faceIn(String document) {
        int from = document.indexOf("```java");
        return document.substring(from, document.indexOf("}\n```", from));
    }

    private static String describe(Method method) {
        String exceptions = names(method.getExceptionTypes());
        return method.getReturnType().getSimpleName() + " " + method.getName() + "(" + names(method.getParameterTypes())
                + ")" + (exceptions.isEmpty() ? "" : " " + exceptions);
    }

    private static String names(Class<?>[] types) {
        return Arrays.stream(types).map(Class::getSimpleName).collect(Collectors.joining(" "));
    }
}
