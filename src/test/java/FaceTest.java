import java.lang.reflect.Constructor;
import java.lang.reflect.Field;
import java.lang.reflect.Method;
import java.lang.reflect.Modifier;
import java.util.Set;
import java.util.TreeSet;

/** The public face of the document, and nothing beside it that others could see. */
public final class FaceTest {
    private static final Due due = new Due();
    private static final String[] METHODS = {
        "write 1", "wipe 0", "fault 0", "lay 0", "room 2", "house 2", "wanted 1", "pass 1", "pin 3", "sneeze 1",
        "mouse 1", "chase 1", "want 2", "undo 0", "behind 3", "when 2", "rest 0", "met 1", "pins 2", "one 2",
        "harm 2", "seen 4", "forget 0", "kinds 1", "stood 1", "tells 3", "likely 5", "century 3", "keep 0",
        "back 0", "count 1"};

    public static void main(String[] args) throws Exception {
        due.so("the class is public and final",
            DollsVote.class.getModifiers() == (Modifier.PUBLIC | Modifier.FINAL));
        constants();
        constructors();
        methods();
        classesInside();
        due.end();
    }

    private static void constants() throws Exception {
        String[] names = {"BAD", "NO", "FULL", "NONE"};
        for (int i = 0; i < names.length; i++) {
            due.is(names[i], -1 - i, DollsVote.class.getField(names[i]).getInt(null));
        }
        for (Field field : DollsVote.class.getDeclaredFields()) {
            boolean told = Set.of(names).contains(field.getName());
            due.so("seen as told: " + field.getName(), told == !Modifier.isPrivate(field.getModifiers()));
            if (Modifier.isStatic(field.getModifiers())) {
                due.so("no other static state: " + field.getName(), Modifier.isFinal(field.getModifiers()));
            }
        }
    }

    private static void constructors() {
        Constructor<?>[] all = DollsVote.class.getDeclaredConstructors();
        due.is("constructors", 1, all.length);
        due.is("its parameters", 0, all[0].getParameterCount());
        due.so("it is public", Modifier.isPublic(all[0].getModifiers()));
    }

    private static void methods() {
        Set<String> told = new TreeSet<>(Set.of(METHODS));
        Set<String> found = new TreeSet<>();
        for (Method method : DollsVote.class.getDeclaredMethods()) {
            if (!Modifier.isPrivate(method.getModifiers())) {
                found.add(method.getName() + " " + method.getParameterCount());
                due.so("public: " + method, Modifier.isPublic(method.getModifiers()));
                due.so("answers an int: " + method, method.getReturnType() == int.class);
                due.so("not static: " + method, !Modifier.isStatic(method.getModifiers()));
            }
        }
        due.so("methods as told: " + found, told.equals(found));
    }

    private static void classesInside() {
        Set<String> names = new TreeSet<>();
        for (String method : METHODS) {
            names.add(method.substring(0, method.indexOf(' ')));
        }
        due.so("some twelve classes", DollsVote.class.getDeclaredClasses().length < 12);
        for (Class<?> inside : DollsVote.class.getDeclaredClasses()) {
            due.so("static and private: " + inside,
                Modifier.isStatic(inside.getModifiers()) && Modifier.isPrivate(inside.getModifiers()));
            for (Method method : inside.getDeclaredMethods()) {
                due.so("bears no public name: " + method, !names.contains(method.getName()));
                due.so("at most seven parameters: " + method, method.getParameterCount() <= 7);
            }
        }
    }
}
