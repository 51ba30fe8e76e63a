import java.lang.reflect.Constructor;
import java.lang.reflect.Field;
import java.lang.reflect.Method;
import java.lang.reflect.Modifier;
import java.util.TreeSet;

/** The public face is that of the document, and no other member of the class can be seen from outside. */
public final class FaceTest {
    private static final String[] FACE = {
        "int room(int)", "int line(int,int)", "int mark(int,int)", "int pace(int,int)", "int part(int,int)",
        "int hold(int,int,int,int)", "int told(int,int)", "int share(int)", "int sheet(int,int,int)", "int drop(int)",
        "int item(int,int,int,int)", "int copy(int,int,int,int,int)", "int letters(int,int,int,int,int)",
        "int clear(int)", "int letter(int,int,int)", "int run(int,int)", "int fate(int,int)", "int sum(int,int)",
        "int length(int,int)", "int ticks()", "int best(int)", "int shortBy(int,int)", "int pass(int,boolean)",
        "int marks()", "int witness()", "new()",
        "BAD -1", "NOT -2", "FULL -3", "NULL -11", "CAST -12", "INDEX -13", "SIZE -14",
    };

    public static void main(String[] args) throws IllegalAccessException {
        TreeSet<String> want = new TreeSet<>(java.util.List.of(FACE));
        TreeSet<String> got = new TreeSet<>();
        for (Method m : LetterStore.class.getDeclaredMethods()) {
            if (!Modifier.isPrivate(m.getModifiers())) {
                got.add(m.getReturnType() + " " + m.getName() + types(m.getParameterTypes()));
            }
        }
        for (Constructor<?> c : LetterStore.class.getDeclaredConstructors()) {
            got.add((Modifier.isPublic(c.getModifiers()) ? "new" : "hidden new") + types(c.getParameterTypes()));
        }
        for (Field f : LetterStore.class.getDeclaredFields()) {
            if (!Modifier.isPrivate(f.getModifiers())) {
                boolean constant = Modifier.isStatic(f.getModifiers()) && Modifier.isFinal(f.getModifiers());
                got.add(f.getName() + (constant ? " " + f.getInt(null) : " is no constant"));
            }
        }
        boolean isFinal = Modifier.isFinal(LetterStore.class.getModifiers());
        if (!want.equals(got) || !isFinal) {
            System.out.println("the face is " + got + ", due is " + want + "; final: " + isFinal);
            System.exit(1);
        }
    }

    private static String types(Class<?>[] types) {
        StringBuilder text = new StringBuilder("(");
        for (Class<?> type : types) {
            text.append(text.length() > 1 ? "," : "").append(type.getName());
        }
        return text.append(")").toString();
    }
}
