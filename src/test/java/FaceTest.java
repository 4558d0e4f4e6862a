import java.io.IOException;
import java.lang.reflect.Constructor;
import java.lang.reflect.Field;
import java.lang.reflect.Method;
import java.lang.reflect.Modifier;
import java.nio.charset.StandardCharsets;
import java.nio.file.Files;
import java.nio.file.Path;
import java.util.ArrayList;
import java.util.List;
import java.util.Set;
import java.util.TreeSet;

/** The face is the document's, and the source keeps to what of LANGUAGE.md can be seen in its words. */
public final class FaceTest {
    private static final Path SOURCE = Path.of("src/main/java/SemaphoreBay.java");

    private static final String[] FACE = {
        "int platforms(int,int) IndexOutOfBoundsException IllegalArgumentException",
        "int block(int) IllegalArgumentException IllegalStateException",
        "int route(int,int,int,boolean) IndexOutOfBoundsException IllegalArgumentException IllegalStateException",
        "int over(int,int) IndexOutOfBoundsException IllegalArgumentException IllegalStateException",
        "int shut(int,int) IndexOutOfBoundsException IllegalArgumentException",
        "int order(int,int) IllegalArgumentException",
        "int train(int,int,int,int) IndexOutOfBoundsException IllegalArgumentException IllegalStateException",
        "int stop(int,int,int) IndexOutOfBoundsException IllegalArgumentException IllegalStateException",
        "int holdBack(int,int) IndexOutOfBoundsException IllegalArgumentException",
        "int rank(int,int) IndexOutOfBoundsException IllegalArgumentException",
        "int tick(int) IllegalArgumentException",
        "int clock()",
        "int many(int) IllegalArgumentException",
        "int station(int,int) IndexOutOfBoundsException IllegalArgumentException",
        "int ofBlock(int,int) IndexOutOfBoundsException IllegalArgumentException",
        "int onRoute(int,int) IndexOutOfBoundsException",
        "int ofRoute(int,int) IndexOutOfBoundsException IllegalArgumentException",
        "int ofTrain(int,int) IndexOutOfBoundsException IllegalArgumentException",
        "int plan(int,int,boolean) IndexOutOfBoundsException",
        "int waitedFor(int,int) IndexOutOfBoundsException",
        "int waitsFor(int) IndexOutOfBoundsException",
        "boolean isStuck(int) IndexOutOfBoundsException",
        "boolean isOpen(int,int) IndexOutOfBoundsException",
        "double meanLate()",
        "int doneIn(int,int) IndexOutOfBoundsException IllegalArgumentException",
        "int waitedWith(int,int) IllegalArgumentException",
        "int lostBy(int,int) IndexOutOfBoundsException IllegalArgumentException",
        "int stuckIn(int) IllegalArgumentException",
        "long digest()",
    };

    private static final String[] RULED_OUT = {
        "import ", "package ", "->", "::", "catch", "finally", "static {", "synchronized", "assert ", "protected ",
        "Exact(", "var ", "instanceof", "hashCode", "toString", "this.wait", "NaN",
    };

    private static final List<String> FAULTS = new ArrayList<>();

    public static void main(String[] args) throws IOException {
        compareFace();
        lookAtMembers();
        lookAtWords();
        for (String fault : FAULTS) {
            System.out.println("FaceTest: " + fault);
        }
        System.out.println("FaceTest: " + FACE.length + " methods, " + FAULTS.size() + " wrong");
        if (!FAULTS.isEmpty()) {
            System.exit(1);
        }
    }

    private static void compareFace() {
        Set<String> got = new TreeSet<>();
        for (Method method : SemaphoreBay.class.getDeclaredMethods()) {
            if (Modifier.isPublic(method.getModifiers())) {
                got.add(told(method));
            }
        }
        if (!got.equals(new TreeSet<>(List.of(FACE)))) {
            FAULTS.add("the face is " + String.join("\n", got));
        }
    }

    private static String told(Method method) {
        List<String> kinds = new ArrayList<>();
        for (Class<?> kind : method.getParameterTypes()) {
            kinds.add(kind.getSimpleName());
        }
        StringBuilder text = new StringBuilder(method.getReturnType().getSimpleName());
        text.append(' ').append(method.getName()).append('(').append(String.join(",", kinds)).append(')');
        for (Class<?> thrown : method.getExceptionTypes()) {
            text.append(' ').append(thrown.getSimpleName());
        }
        return text.toString();
    }

    private static void lookAtMembers() {
        Set<String> names = new TreeSet<>();
        for (String method : FACE) {
            names.add(method.substring(method.indexOf(' ') + 1, method.indexOf('(')));
        }
        Class<?> bay = SemaphoreBay.class;
        if (!Modifier.isFinal(bay.getModifiers()) || !Modifier.isPublic(bay.getModifiers())) {
            FAULTS.add("the class is not public and final");
        }
        for (Constructor<?> made : bay.getDeclaredConstructors()) {
            if (!Modifier.isPublic(made.getModifiers()) || made.getParameterCount() != 0) {
                FAULTS.add("a constructor that is not of the face: " + made);
            }
        }
        for (Field field : bay.getDeclaredFields()) {
            if (!Modifier.isPrivate(field.getModifiers()) || !Modifier.isFinal(field.getModifiers())) {
                FAULTS.add("a field that is not private and final: " + field);
            }
        }
        for (Method method : bay.getDeclaredMethods()) {
            boolean isPublic = Modifier.isPublic(method.getModifiers());
            if (!isPublic && !Modifier.isPrivate(method.getModifiers())) {
                FAULTS.add("a method that is neither public nor private: " + method);
            }
            if (!isPublic && names.contains(method.getName())) {
                FAULTS.add("a private method with the name of a public one: " + method);
            }
        }
    }

    private static void lookAtWords() throws IOException {
        List<String> lines = Files.readAllLines(SOURCE, StandardCharsets.US_ASCII);
        for (int i = 0; i < lines.size(); i++) {
            for (String word : RULED_OUT) {
                if (lines.get(i).contains(word)) {
                    FAULTS.add("line " + (i + 1) + " has '" + word + "'");
                }
            }
        }
    }
}
