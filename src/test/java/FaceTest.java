import java.lang.reflect.Constructor;
import java.lang.reflect.Field;
import java.lang.reflect.Method;
import java.lang.reflect.Modifier;
import java.util.Arrays;
import java.util.TreeSet;

/** The public face is the document's, and nothing else can be seen from outside. */
public final class FaceTest {
    private static final String[] FACE = {
        "int feed(int,int,int,int,int)", "boolean end(int)", "int camp()", "int fault()", "int boy(int,int)",
        "int on(int,int)", "int event(int,int)", "int takes(int)", "int ashes(int)", "int now(int)",
        "int tell(int,int)", "int lie(int,int)", "int give(int,int,int,int)", "int log()", "int rake()",
        "int days(int)", "int undo()", "int best()", "int bestAt(int)", "int spread()", "int spreadOf(int)",
        "int says(int,int)", "int saying()", "int tents(int)", "int laws()", "int watch()", "int calm(int)",
        "int tag(int)", "int byteAt(int)", "int drawn(int,int)", "int odds(int,int,int)", "int book(int)",
        "int told(int)", "int sentence()", "int said(int)", "boolean image(int)", "boolean restore(int)",
        "int count(int)"};

    public static void main(String[] args) {
        Class<?> face = CampAshes.class;
        Check.due("public final", Modifier.isPublic(face.getModifiers()) && Modifier.isFinal(face.getModifiers()), true);
        Check.due("NONE", CampAshes.NONE, -1);
        TreeSet<String> seen = new TreeSet<>();
        TreeSet<String> hidden = new TreeSet<>();
        for (Method method : face.getDeclaredMethods()) {
            if (Modifier.isPublic(method.getModifiers())) {
                seen.add(shown(method));
            } else {
                Check.due("private " + method.getName(), Modifier.isPrivate(method.getModifiers()), true);
                hidden.add(method.getName());
            }
        }
        Check.due("the methods", seen.toString(), new TreeSet<>(Arrays.asList(FACE)).toString());
        for (Method method : face.getDeclaredMethods()) {
            if (Modifier.isPublic(method.getModifiers())) {
                Check.due("a private method is called " + method.getName(), hidden.contains(method.getName()), false);
            }
        }
        for (Field field : face.getDeclaredFields()) {
            boolean fine = Modifier.isPrivate(field.getModifiers()) || field.getName().equals("NONE");
            Check.due("the field " + field.getName() + " is private", fine, true);
        }
        Constructor<?>[] made = face.getDeclaredConstructors();
        Check.due("constructors", made.length, 1);
        Check.due("the constructor's parameters", made[0].getParameterCount(), 0);
        Check.close();
    }

    private static String shown(Method method) {
        StringBuilder text = new StringBuilder(method.getReturnType().getName());
        text.append(' ').append(method.getName()).append('(');
        for (int i = 0; i < method.getParameterCount(); i++) {
            text.append(i == 0 ? "" : ",").append(method.getParameterTypes()[i].getName());
        }
        return text.append(')').toString();
    }
}
