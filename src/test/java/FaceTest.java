import java.lang.reflect.Constructor;
import java.lang.reflect.Field;
import java.lang.reflect.Method;
import java.lang.reflect.Modifier;
import java.util.Arrays;
import java.util.Set;
import java.util.TreeSet;

/** The public face: what the document lists, and no other member that is not private. */
public final class FaceTest {
    private static final String[] FACE = {
        "public int time(int,int) throws java.lang.IndexOutOfBoundsException,"
                + "java.lang.IllegalArgumentException,java.lang.IllegalStateException",
        "public int span(int) throws java.lang.IllegalArgumentException",
        "public int ask(int,boolean) throws java.lang.IllegalArgumentException,"
                + "java.lang.UnsupportedOperationException",
        "public int run(int) throws java.lang.IllegalArgumentException",
        "public int done(int) throws java.lang.IndexOutOfBoundsException",
        "public int command(int,int) throws java.lang.IndexOutOfBoundsException",
        "public int open(int,int) throws java.lang.IndexOutOfBoundsException",
        "public int part(int,int) throws java.lang.IllegalArgumentException",
        "public void begin()",
        "public int check(int,int,int,int,int) throws java.lang.IllegalArgumentException",
        "public int count(int)",
    };

    public static void main(String[] args) {
        Due due = new Due();
        Class<?> face = BankTimes.class;
        due.holds("public final class", face.getModifiers() == (Modifier.PUBLIC | Modifier.FINAL));
        due.is("NONE", -1, () -> BankTimes.NONE);

        Set<String> want = new TreeSet<>(Arrays.asList(FACE));
        Set<String> got = new TreeSet<>();
        for (Method m : face.getDeclaredMethods()) {
            if (!Modifier.isPrivate(m.getModifiers())) {
                got.add(m.toString().replace("BankTimes.", ""));
            }
        }
        due.holds("methods " + got + " are " + want, got.equals(want));

        for (Field f : face.getDeclaredFields()) {
            boolean constant = f.toString().equals("public static final int BankTimes.NONE");
            due.holds("field " + f, constant || Modifier.isPrivate(f.getModifiers()));
            due.holds(
                    "static and not final: " + f,
                    !Modifier.isStatic(f.getModifiers()) || Modifier.isFinal(f.getModifiers()));
        }
        Constructor<?>[] made = face.getDeclaredConstructors();
        due.holds(
                "one constructor",
                made.length == 1 && made[0].toString().equals("public BankTimes(int,int,int)"));
        for (Class<?> inside : face.getDeclaredClasses()) {
            due.holds("static " + inside, Modifier.isStatic(inside.getModifiers()));
            due.holds("not public " + inside, !Modifier.isPublic(inside.getModifiers()));
        }
        due.end();
    }
}
