import java.lang.reflect.Constructor;
import java.lang.reflect.Field;
import java.lang.reflect.Method;
import java.lang.reflect.Modifier;
import java.util.ArrayList;
import java.util.Arrays;
import java.util.List;
import java.util.TreeSet;

/** Promise 1 and the public face: the class has what the document prints, and nothing else that is not private. */
public final class FaceTest {
    private static final String[] FACE = {
        "int feed(int, long)", "int cut(int)", "int out(int)", "int again()", "int tick(int)", "long digest(int)",
        "long keyed(int, long)", "long derived(int, long, int, long)", "int seal(int, long, long, int)",
        "int unseal(int, long, long, int)", "int point(int, int)", "long joint(int, int, int)", "int keyPoint(int)",
        "long sign(int, int)", "int fits(int, int, long)", "int node()", "int wrap(int, int)", "int certificate()",
        "int list()", "int answer()", "int field(int, int)", "int text(int, int, int)", "int row(int)",
        "int judge(int, int, int)", "int build(int, int, int, int)", "int step(int)", "int status(int, int, int)",
        "int end(int)", "int offer(int, int, int)", "int setting(int, int, int)", "int random(int)",
        "int trust(int, int)", "int identity(int, int)", "int host(int)", "int shared(int, int, long)",
        "int forget(int, int)", "int ticket(int, int, int)", "int early(int)", "int connection(int, int)",
        "int give(int, int)", "int bring(int, int, int)", "int line(int, int, int)", "int alter(int, int, int, int)",
        "int say(int, int)", "int hear(int, int)", "int close(int, int)", "int renew(int, int, int)",
        "int told(int, int, int)", "long key(int, int, int)", "long export(int, int)", "int office(int, int, int)",
        "int account(int, long)", "int order(int, int)", "int ordered(int, int, int)", "int zone(long)",
        "int challenge(int, int, int)", "int issue(int, int, int, int)", "int revoke(int, int)",
        "int publish(int, int)", "int respond(int, int, int)", "int log()", "int add(int, long)",
        "long head(int, int)", "int inclusion(int, int, int)", "int consistency(int, int, int)",
        "int included(long, int, int, long)", "int consistent(int, int, long, long)"};

    public static void main(String[] args) {
        Class<?> c = SecureLines.class;
        Check.that("public and final", Modifier.isPublic(c.getModifiers()) && Modifier.isFinal(c.getModifiers()));
        TreeSet<String> due = new TreeSet<>(Arrays.asList(FACE));
        TreeSet<String> got = new TreeSet<>();
        TreeSet<String> names = new TreeSet<>();
        for (Method method : c.getDeclaredMethods()) {
            if (!Modifier.isPrivate(method.getModifiers())) {
                got.add(told(method));
                names.add(method.getName());
            }
        }
        Check.that("the methods, and no others: " + got, got.equals(due));
        Check.due("promises of methods", due.size(), 67);
        for (Field field : c.getDeclaredFields()) {
            boolean constant = Arrays.asList("BAD", "NO", "FULL", "NONE").contains(field.getName());
            Check.that(field.getName(), constant == Modifier.isPublic(field.getModifiers())
                && constant != Modifier.isPrivate(field.getModifiers()));
        }
        for (Constructor<?> constructor : c.getDeclaredConstructors()) {
            Check.that("the constructor", constructor.getParameterCount() == 0
                && Modifier.isPublic(constructor.getModifiers()));
        }
        List<Class<?>> all = new ArrayList<>(Arrays.asList(c.getDeclaredClasses()));
        Check.that("twelve classes at most", all.size() < 12);
        all.add(c);
        for (Class<?> one : all) {
            Check.that(one.getName() + " is static", one == c || Modifier.isStatic(one.getModifiers()));
            int fields = 0;
            for (Field field : one.getDeclaredFields()) {
                fields += Modifier.isStatic(field.getModifiers()) ? 0 : 1;
                Check.that(field + " is final", !Modifier.isStatic(field.getModifiers())
                    || Modifier.isFinal(field.getModifiers()));
            }
            Check.that(one.getName() + " has some twenty fields", fields <= 20);
            for (Method method : one.getDeclaredMethods()) {
                Check.that(method + " has seven parameters at most", method.getParameterCount() <= 7);
                Check.that(method + " bears no public name", one == c && !Modifier.isPrivate(method.getModifiers())
                    || !names.contains(method.getName()));
            }
        }
        Check.end("FaceTest");
    }

    private static String told(Method method) {
        List<String> types = new ArrayList<>();
        for (Class<?> type : method.getParameterTypes()) {
            types.add(type.getName());
        }
        return method.getReturnType().getName() + " " + method.getName() + "(" + String.join(", ", types) + ")";
    }
}
