import java.lang.reflect.Constructor;
import java.lang.reflect.Field;
import java.lang.reflect.Method;
import java.lang.reflect.Modifier;
import java.util.ArrayList;
import java.util.Collections;
import java.util.List;

/** The class has the face of the document and no other member that can be seen. */
public final class FaceTest {
    private static final String FACE = """
        int feed(int,int,int,int,int) IllegalStateException
        int truncate(int) IllegalArgumentException
        int readText() IllegalArgumentException
        int runScript() IllegalArgumentException
        int errorCode()
        int errorPosition()
        int setting(int) IllegalArgumentException
        int row(int,int) IndexOutOfBoundsException IllegalArgumentException
        int letter(int,int) IndexOutOfBoundsException
        int wordAt(int,int) IndexOutOfBoundsException
        int differ(int,int) IndexOutOfBoundsException
        int distance(int,int) IndexOutOfBoundsException
        int score(int) IndexOutOfBoundsException
        int having(int) IndexOutOfBoundsException
        int closest(int,int) IndexOutOfBoundsException
        int spread(int) IndexOutOfBoundsException
        int shared(int,int) IndexOutOfBoundsException
        int sharedAt(int,int,int) IndexOutOfBoundsException
        int hits(int) IndexOutOfBoundsException
        int hit(int,int,int) IndexOutOfBoundsException IllegalArgumentException
        int kinds()
        int timesOf(int) IndexOutOfBoundsException
        int commonest()
        int best(int) IllegalArgumentException
        int bound(int,int) IndexOutOfBoundsException IllegalArgumentException
        int mostHad(int) IllegalArgumentException
        int scoreWithout(int) IndexOutOfBoundsException
        int outlier()
        int ranked(int)
        int rankOf(int) IndexOutOfBoundsException
        int second(int) IllegalArgumentException
        int count(int,int) IndexOutOfBoundsException
        int common()
        int agreement()
        int weight(int,int) IndexOutOfBoundsException
        int tryFrom(int,int) IndexOutOfBoundsException
        int bestStart(int) IndexOutOfBoundsException
        float agreementShare()
        double meanDistance()
        int improvesToEnd(int) IllegalArgumentException
        int choose(int,int) IndexOutOfBoundsException IllegalArgumentException
        int clear(int) IndexOutOfBoundsException IllegalStateException
        int better(int) IndexOutOfBoundsException IllegalStateException
        int improve(int) IllegalArgumentException
        int take(int) IndexOutOfBoundsException IllegalStateException
        int takeBest() IllegalStateException
        int whyNotTake(int) IndexOutOfBoundsException
        int taken(int)
        int setOut(int,boolean) IndexOutOfBoundsException IllegalStateException
        int setChanges(int) IllegalArgumentException
        int report()
        int reportByte(int) IndexOutOfBoundsException
        int undo()
        int save()
        int restore() IllegalStateException
        """;

    private FaceTest() {
    }

    public static void main(String[] args) throws Exception {
        Check check = new Check("the face");
        Class<?> c = HiddenWords.class;
        check.that("public and final", c.getModifiers() == (Modifier.PUBLIC | Modifier.FINAL));
        check.that("one constructor", c.getDeclaredConstructors().length == 1);
        for (Constructor<?> k : c.getDeclaredConstructors()) {
            check.that("the constructor", k.getModifiers() == Modifier.PUBLIC && k.getParameterCount() == 0
                    && k.getExceptionTypes().length == 0);
        }
        Field none = c.getField("NONE");
        check.that("NONE", none.getModifiers() == (Modifier.PUBLIC | Modifier.STATIC | Modifier.FINAL)
                && none.getType() == int.class && none.getInt(null) == -1);
        for (Field f : c.getDeclaredFields()) {
            check.that("hidden field " + f.getName(), f.getName().equals("NONE") || Modifier.isPrivate(f.getModifiers()));
        }
        checkMethods(check, c);
        for (Class<?> inside : c.getDeclaredClasses()) {
            check.that("hidden class " + inside.getName(), Modifier.isStatic(inside.getModifiers())
                    && !Modifier.isPublic(inside.getModifiers()) && !Modifier.isProtected(inside.getModifiers()));
            for (Method m : inside.getDeclaredMethods()) {
                check.that("the name of " + m, !FACE.contains(" " + m.getName() + "("));
            }
        }
        check.end();
    }

    private static void checkMethods(Check check, Class<?> c) {
        List<String> due = new ArrayList<>(List.of(FACE.strip().split("\n")));
        List<String> got = new ArrayList<>();
        for (Method m : c.getDeclaredMethods()) {
            if (m.getModifiers() == Modifier.PUBLIC) {
                got.add(textOf(m));
            } else {
                check.that("hidden method " + m, Modifier.isPrivate(m.getModifiers())
                        && !FACE.contains(" " + m.getName() + "("));
            }
        }
        Collections.sort(due);
        Collections.sort(got);
        check.due("the methods", got.toString(), due.toString());
    }

    private static String textOf(Method m) {
        StringBuilder parameters = new StringBuilder();
        for (Class<?> p : m.getParameterTypes()) {
            parameters.append(parameters.length() > 0 ? "," : "").append(p.getSimpleName());
        }
        StringBuilder text = new StringBuilder(m.getReturnType().getSimpleName() + " " + m.getName() + "(" + parameters + ")");
        for (Class<?> e : m.getExceptionTypes()) {
            text.append(" ").append(e.getSimpleName());
        }
        return text.toString();
    }
}
