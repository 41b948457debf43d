import java.lang.reflect.Member;
import java.lang.reflect.Modifier;
import java.util.ArrayList;
import java.util.Arrays;
import java.util.Collections;
import java.util.List;
import java.util.Set;
import java.util.TreeSet;

/** The public face, and rule 1 of LANGUAGE.md: no other member of the class can be seen from outside. */
public final class FaceTest {
    private static final String[] FACE = {
        "boolean cross(int,int,int,int,int) IndexOutOfBoundsException,IllegalArgumentException",
        "boolean edge(int,int,int) IndexOutOfBoundsException",
        "boolean flip(int,int,int,int) IndexOutOfBoundsException,IllegalArgumentException",
        "boolean hasNumbers(int) IndexOutOfBoundsException",
        "boolean realize(int) IndexOutOfBoundsException",
        "int clear() ",
        "int copy(int,boolean) IndexOutOfBoundsException,IllegalStateException",
        "int crossings(int) IndexOutOfBoundsException",
        "int draw() IllegalStateException",
        "int drawings() ",
        "int empties(int) IndexOutOfBoundsException",
        "int extensions(int) IndexOutOfBoundsException,IllegalStateException",
        "int fault(int) IllegalArgumentException",
        "int flipEdge(int,int,int) IndexOutOfBoundsException,IllegalStateException",
        "int flips(int) IndexOutOfBoundsException",
        "int hull(int,int) IndexOutOfBoundsException",
        "int layer(int,int) IndexOutOfBoundsException",
        "int letter(int) IllegalArgumentException,IllegalStateException",
        "int level(int,int) IndexOutOfBoundsException,IllegalArgumentException",
        "int matchings(int,int) IndexOutOfBoundsException,IllegalArgumentException",
        "int number(int,int,boolean) IndexOutOfBoundsException,IllegalStateException",
        "int paths(int) IndexOutOfBoundsException",
        "int place(int,int) IllegalArgumentException,IllegalStateException",
        "int points(int) IndexOutOfBoundsException",
        "int sign(int,int,int,int) IndexOutOfBoundsException",
        "int triangulate(int) IndexOutOfBoundsException",
        "int triangulations(int) IndexOutOfBoundsException,IllegalStateException",
        "int wipe() ",
        "int wire(int) IllegalArgumentException,IllegalStateException",
        "long canonical(int,boolean) IndexOutOfBoundsException",
        "void rename(int,int,int) IndexOutOfBoundsException,IllegalArgumentException",
    };

    public static void main(String[] args) {
        methods();
        constants();
        constructors();
        classesInside();
        Due.end();
    }

    private static String names(Class<?>[] types) {
        List<String> names = new ArrayList<>();
        for (Class<?> type : types) {
            names.add(type.getSimpleName());
        }
        return String.join(",", names);
    }

    private static boolean hidden(Member member) {
        return Modifier.isPrivate(member.getModifiers()) || member.isSynthetic();
    }

    private static void methods() {
        List<String> found = new ArrayList<>();
        Set<String> seen = new TreeSet<>();
        for (var method : TurnsHall.class.getDeclaredMethods()) {
            if (!hidden(method)) {
                found.add(method.getReturnType().getSimpleName() + " " + method.getName() + "("
                        + names(method.getParameterTypes()) + ") " + names(method.getExceptionTypes()));
                seen.add(method.getName());
                Due.yes(method.getName() + " is public", Modifier.isPublic(method.getModifiers()));
                Due.no(method.getName() + " is static", Modifier.isStatic(method.getModifiers()));
            }
        }
        Collections.sort(found);
        Due.tell("the methods", String.join("\n", FACE), String.join("\n", found));
        List<Class<?>> all = new ArrayList<>(Arrays.asList(TurnsHall.class.getDeclaredClasses()));
        all.add(TurnsHall.class);
        for (Class<?> type : all) {
            for (var method : type.getDeclaredMethods()) {
                boolean itsFace = type == TurnsHall.class && !hidden(method);
                Due.no(type + "." + method.getName() + " bears a public name",
                        !itsFace && seen.contains(method.getName()));
            }
        }
    }

    private static void constants() {
        for (var field : TurnsHall.class.getDeclaredFields()) {
            if (!hidden(field)) {
                Due.tell("a field that can be seen", "public static final int NONE", Modifier.toString(
                        field.getModifiers()) + " " + field.getType() + " " + field.getName());
            }
        }
        Due.same("NONE", -1, () -> TurnsHall.NONE);
    }

    private static void constructors() {
        var all = TurnsHall.class.getDeclaredConstructors();
        Due.same("how many constructors", 1, () -> all.length);
        Due.tell("the constructor", "public TurnsHall()", all[0].toString());
        Due.tell("the class", "public final", Modifier.toString(TurnsHall.class.getModifiers()));
    }

    private static void classesInside() {
        Class<?>[] all = TurnsHall.class.getDeclaredClasses();
        Due.yes("at most twelve classes", all.length <= 12);
        for (Class<?> type : all) {
            Due.yes(type + " is static", Modifier.isStatic(type.getModifiers()));
            Due.no(type + " is public", Modifier.isPublic(type.getModifiers()));
            Due.no(type + " is protected", Modifier.isProtected(type.getModifiers()));
        }
    }
}
