import java.lang.reflect.Constructor;
import java.lang.reflect.Field;
import java.lang.reflect.Method;
import java.lang.reflect.Modifier;
import java.util.Arrays;
import java.util.List;
import java.util.TreeSet;

/** The public face is the document's, no more and no less. */
public final class FaceTest {
    private static final List<String> FACE = List.of(
            "int state(int)", "int line(int,int,int,int,int,int)", "boolean set(int,int,int)",
            "int write(int,int)", "int blank(int)", "int read(int,int)",
            "int feed(int,int,int,int,int)", "boolean end(int)", "int text(int)",
            "int fault(int)", "int send(int,int,int,int,int)", "int day()", "int of(int,int)",
            "int book(int,int)", "long creep()", "int comes(int,int,int)",
            "int meant(int,int,int,int)", "int twin(int,int,int)", "int code(int,int,int)",
            "int best(int,int,int)", "int clerks()", "int look(int)", "int cure(int,int)",
            "boolean undo()", "boolean image(boolean)", "int tells(int)");

    public static void main(String[] args) {
        Class<?> face = LostSevens.class;
        int modifiers = face.getModifiers();
        Due.due("public", Modifier.isPublic(modifiers), true);
        Due.due("final", Modifier.isFinal(modifiers), true);
        TreeSet<String> names = new TreeSet<>();
        for (Method method : face.getDeclaredMethods()) {
            if (Modifier.isPrivate(method.getModifiers())) {
                for (String named : FACE) {
                    boolean alike = named.contains(" " + method.getName() + "(");
                    Due.due("private " + method.getName(), alike, false);
                }
            } else {
                Due.due("public " + method.getName(), method.getModifiers(), Modifier.PUBLIC);
                names.add(signature(method));
            }
        }
        Due.due("methods", names.toString(), new TreeSet<>(FACE).toString());
        for (Field field : face.getDeclaredFields()) {
            boolean isNone = field.getName().equals("NONE");
            Due.due(field.getName(), Modifier.isPrivate(field.getModifiers()), !isNone);
        }
        Constructor<?>[] constructors = face.getDeclaredConstructors();
        Due.due("constructors", constructors.length, 1);
        Due.due("public constructor", Modifier.isPublic(constructors[0].getModifiers()), true);
        Due.due("its parameters", constructors[0].getParameterCount(), 0);
        Due.due("NONE", LostSevens.NONE, -1);
        Due.close();
    }

    private static String signature(Method method) {
        String parameters = Arrays.toString(Arrays.stream(method.getParameterTypes())
                .map(Class::getName).toArray()).replace(" ", "");
        return method.getReturnType().getName() + " " + method.getName() + "("
                + parameters.substring(1, parameters.length() - 1) + ")";
    }
}
