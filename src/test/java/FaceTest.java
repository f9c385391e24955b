import java.lang.reflect.Constructor;
import java.lang.reflect.Field;
import java.lang.reflect.Method;
import java.lang.reflect.Modifier;
import java.util.ArrayList;
import java.util.Arrays;
import java.util.List;
import java.util.TreeSet;

/** The public face: just the members that the document tells, and the constants' values. */
public final class FaceTest {
    private static final String[] METHODS = {
        "puppet(int,int)", "tie(int,int,boolean,int)", "cut(int)", "cutDeal(int)", "pull(int,int)",
        "release(int)", "session()", "set(int,int)", "puppetOf(int,int)", "stringOf(int,int)",
        "between(int,int)", "book(int,int)", "whyTie(int,int,boolean)", "whyPull(int,int)",
        "bestPull(int)", "fewest(int)", "ifCut(int,int)", "share()", "count(int)", "undo()",
        "type(int)", "clearText()", "fault(int)", "play()"};

    public static void main(String[] args) {
        sentences();
        Due.holds("public final", StringVotes.class.getModifiers() == (Modifier.PUBLIC | Modifier.FINAL));
        methods();
        fields();
        constructors();
        classesInside();
        Due.end("FaceTest");
    }

    static void sentences() {
        Due.sentence(Due.ALL, "`INVALID_ARGUMENT = -1000001`: An argument is out of its range, or there is "
            + "no such puppet or string.", () -> {
            Due.is("INVALID_ARGUMENT", StringVotes.INVALID_ARGUMENT, -1000001);
            Due.is("an argument", new StringVotes().puppet(0, 0), -1000001);
            Due.is("no such puppet", new StringVotes().pull(0, 0), -1000001);
            Due.is("no such string", new StringVotes().cut(0), -1000001);
        });
        Due.sentence(Due.ALL, "`NOT_POSSIBLE = -1000002`: The call is not possible in the present state.", () -> {
            Due.is("NOT_POSSIBLE", StringVotes.NOT_POSSIBLE, -1000002);
            Due.is("nothing to undo", new StringVotes().undo(), -1000002);
        });
        Due.sentence(Due.ALL, "`LIMIT_REACHED = -1000003`: A fixed limit has been reached.", () -> {
            Due.is("LIMIT_REACHED", StringVotes.LIMIT_REACHED, -1000003);
            Due.is("12 puppets", Scene.full().puppet(1, 0), -1000003);
        });
        Due.sentence(Due.ALL, "`NOT_FOUND = -1000004`: There is no such value.", () -> {
            Due.is("NOT_FOUND", StringVotes.NOT_FOUND, -1000004);
            Due.is("no share", new StringVotes().share(), -1000004);
        });
    }

    private static void methods() {
        TreeSet<String> told = new TreeSet<>();
        List<String> privateNames = new ArrayList<>();
        for (Method method : StringVotes.class.getDeclaredMethods()) {
            if (Modifier.isPrivate(method.getModifiers())) {
                privateNames.add(method.getName());
                continue;
            }
            Due.holds(method + " is public and returns int",
                method.getModifiers() == Modifier.PUBLIC && method.getReturnType() == int.class);
            List<String> types = new ArrayList<>();
            for (Class<?> type : method.getParameterTypes()) {
                types.add(type.getName());
            }
            told.add(method.getName() + "(" + String.join(",", types) + ")");
        }
        TreeSet<String> due = new TreeSet<>(Arrays.asList(METHODS));
        Due.holds("the methods are those of the document: " + told, told.equals(due));
        for (String method : METHODS) {
            String name = method.substring(0, method.indexOf('('));
            Due.holds("no private method is named " + name, !privateNames.contains(name));
        }
    }

    private static void fields() {
        TreeSet<String> told = new TreeSet<>();
        for (Field field : StringVotes.class.getDeclaredFields()) {
            boolean isStatic = Modifier.isStatic(field.getModifiers());
            Due.holds(field + " is final if it is static", !isStatic || Modifier.isFinal(field.getModifiers()));
            if (!Modifier.isPrivate(field.getModifiers())) {
                Due.holds(field + " is public", Modifier.isPublic(field.getModifiers()));
                told.add(field.getName());
            }
        }
        TreeSet<String> due = new TreeSet<>(
            Arrays.asList("INVALID_ARGUMENT", "NOT_POSSIBLE", "LIMIT_REACHED", "NOT_FOUND"));
        Due.holds("the constants are those of the document: " + told, told.equals(due));
    }

    private static void constructors() {
        Constructor<?>[] all = StringVotes.class.getDeclaredConstructors();
        Due.holds("one constructor without arguments",
            all.length == 1 && all[0].getParameterCount() == 0 && Modifier.isPublic(all[0].getModifiers()));
    }

    private static void classesInside() {
        Class<?>[] inside = StringVotes.class.getDeclaredClasses();
        Due.holds("at most twelve classes", inside.length <= 12);
        for (Class<?> one : inside) {
            Due.holds(one + " is private and static",
                Modifier.isPrivate(one.getModifiers()) && Modifier.isStatic(one.getModifiers()));
            int fields = 0;
            for (Field field : one.getDeclaredFields()) {
                fields += Modifier.isStatic(field.getModifiers()) ? 0 : 1;
            }
            Due.holds(one + " has some twenty fields at most", fields <= 20);
        }
    }
}
