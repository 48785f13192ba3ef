import java.lang.reflect.Constructor;
import java.lang.reflect.Field;
import java.lang.reflect.Method;
import java.lang.reflect.Modifier;
import java.util.ArrayList;
import java.util.Arrays;
import java.util.List;
import java.util.Set;
import java.util.TreeSet;

/** The public face is the document's, and nothing beside it can be seen. */
public final class FaceTest {
    private static final String[] FACE = {
        "int type(int)", "int wipe()", "int fault()", "int good(int,int)", "int set(int,int)", "int partner(int,int)",
        "int read(int)", "int paid(int)", "int bill(int,int)", "int bought(int)", "int added(int)",
        "int proof(int,int)", "int raised(int,int)", "int rounds(int,int,int)", "int figures(int,int)",
        "int rent(int,int,int)", "long share(int,int)", "int smudged(int,int)", "int game(int,int,int,int)",
        "int sheet(int,int,int)", "int lose(int)", "int lay(int,int,int,int)", "int get(int,int,int)",
        "int copy(int,int,int,int,int)", "int write(int,int)", "int count(int)", "long digest()"};

    public static void main(String[] args) {
        Check check = new Check();
        Class<?> face = ReadFromRight.class;
        check.isTrue("the class is public and final",
            Modifier.isPublic(face.getModifiers()) && Modifier.isFinal(face.getModifiers()));
        check.isTrue("methods are the document's: " + visibleMethods(face),
            visibleMethods(face).equals(new TreeSet<>(Arrays.asList(FACE))));
        check.isTrue("constants are the document's: " + visibleFields(face),
            visibleFields(face).equals(List.of("NONE", "BAD", "NOT", "FULL")));
        Constructor<?>[] made = face.getDeclaredConstructors();
        check.isTrue("one public constructor without parameters",
            made.length == 1 && Modifier.isPublic(made[0].getModifiers()) && made[0].getParameterCount() == 0);
        check.due("NONE", ReadFromRight.NONE, -1);
        check.due("BAD", ReadFromRight.BAD, -2);
        check.due("NOT", ReadFromRight.NOT, -3);
        check.due("FULL", ReadFromRight.FULL, -4);
        check.isTrue("private methods have names of their own", privateNamesAreOwn(face));
        for (Class<?> inside : face.getDeclaredClasses()) {
            int seen = inside.getModifiers();
            check.isTrue(inside + " is static and not public or protected",
                Modifier.isStatic(seen) && !Modifier.isPublic(seen) && !Modifier.isProtected(seen));
        }
        check.end();
    }

    private static Set<String> visibleMethods(Class<?> face) {
        Set<String> seen = new TreeSet<>();
        for (Method method : face.getDeclaredMethods()) {
            if (!Modifier.isPrivate(method.getModifiers())) {
                List<String> types = new ArrayList<>();
                for (Class<?> type : method.getParameterTypes()) {
                    types.add(type.getName());
                }
                seen.add(method.getReturnType() + " " + method.getName() + "(" + String.join(",", types) + ")");
            }
        }
        return seen;
    }

    private static List<String> visibleFields(Class<?> face) {
        List<String> seen = new ArrayList<>();
        for (Field field : face.getDeclaredFields()) {
            if (!Modifier.isPrivate(field.getModifiers())) {
                seen.add(field.getName());
            }
        }
        return seen;
    }

    private static boolean privateNamesAreOwn(Class<?> face) {
        Set<String> names = new TreeSet<>();
        for (String signature : FACE) {
            names.add(signature.substring(signature.indexOf(' ') + 1, signature.indexOf('(')));
        }
        List<Class<?>> all = new ArrayList<>(List.of(face.getDeclaredClasses()));
        all.add(face);
        for (Class<?> one : all) {
            for (Method method : one.getDeclaredMethods()) {
                if (!Modifier.isPublic(method.getModifiers()) && names.contains(method.getName())) {
                    return false;
                }
            }
        }
        return true;
    }
}
