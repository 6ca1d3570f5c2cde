import java.lang.reflect.Member;
import java.lang.reflect.Method;
import java.lang.reflect.Modifier;
import java.util.Arrays;
import java.util.Set;
import java.util.TreeSet;
import java.util.stream.Collectors;
import java.util.stream.Stream;

/** The face of the document and nothing else, and no private method with a name of it. */
public final class FaceTest {
    private static final Check CHECK = new Check("FaceTest");

    private static final Set<String> METHODS = Set.of(
            "int place(int)", "int transition()", "boolean arc(int,int,int,int)", "boolean target(int,int)",
            "int rounds()", "int steps()", "int witness(int)", "int least(int)", "int grow()", "int most(int)",
            "boolean live(int)", "int limits()", "int limit(int,int)", "boolean covers()", "boolean fire(int)",
            "int tokens(int)");

    public static void main(String[] args) {
        Class<?> face = CoverRounds.class;
        CHECK.yes("public final", Modifier.isPublic(face.getModifiers()) && Modifier.isFinal(face.getModifiers()));
        Set<String> seen = Arrays.stream(face.getDeclaredMethods()).filter(FaceTest::isSeen)
                .map(FaceTest::told).collect(Collectors.toCollection(TreeSet::new));
        CHECK.yes("methods: " + seen, seen.equals(METHODS));
        Set<String> fields = Arrays.stream(face.getDeclaredFields()).filter(FaceTest::isSeen)
                .map(Member::getName).collect(Collectors.toCollection(TreeSet::new));
        CHECK.yes("constants: " + fields, fields.equals(Set.of("NONE", "OMEGA")));
        CHECK.due("constructors", face.getDeclaredConstructors().length, 1);
        privateNames(face);
        CHECK.finish();
    }

    private static boolean isSeen(Member member) {
        return !Modifier.isPrivate(member.getModifiers());
    }

    private static String told(Method method) {
        String types = Arrays.stream(method.getParameterTypes()).map(Class::getName).collect(Collectors.joining(","));
        return method.getReturnType().getName() + " " + method.getName() + "(" + types + ")";
    }

    private static void privateNames(Class<?> face) {
        Set<String> names = METHODS.stream().map(one -> one.replaceAll(".* |\\(.*", "")).collect(Collectors.toSet());
        Stream<Method> own = Arrays.stream(face.getDeclaredMethods()).filter(one -> !isSeen(one));
        Stream<Method> inside = Arrays.stream(face.getDeclaredClasses())
                .flatMap(one -> Arrays.stream(one.getDeclaredMethods()));
        Stream.concat(own, inside).forEach(one -> CHECK.no("name " + one.getName(), names.contains(one.getName())));
        for (Class<?> one : face.getDeclaredClasses()) {
            CHECK.yes("static " + one.getName(), Modifier.isStatic(one.getModifiers()));
        }
    }
}
