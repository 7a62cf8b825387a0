import java.lang.reflect.Method;
import java.util.Arrays;

/** What the project's tests share: answers that are due, counted, and an end that tells. */
final class Due {
    private int wrong;
    private int asked;

    void is(String call, long due, long got) {
        asked++;
        if (got != due) {
            wrong++;
            System.out.println(call + " answered " + got + ", due is " + due);
        }
    }

    void so(String what, boolean holds) {
        is(what, 1, holds ? 1 : 0);
    }

    void same(String what, String due, String got) {
        so(what + " is " + got + ", due is " + due, due.equals(got));
    }

    boolean allRight() {
        return wrong == 0;
    }

    void end() {
        System.out.println(asked + " answers, " + wrong + " not as due");
        if (wrong != 0) {
            System.exit(1);
        }
    }

    /** A public method by its name. */
    static int ask(DollsVote x, String name, int... numbers) throws ReflectiveOperationException {
        Class<?>[] types = new Class<?>[numbers.length];
        Arrays.fill(types, int.class);
        Method method = DollsVote.class.getMethod(name, types);
        return (Integer) method.invoke(x, Arrays.stream(numbers).boxed().toArray());
    }

    static void type(DollsVote x, String text) {
        for (int i = 0; i < text.length(); i++) {
            x.write(text.charAt(i));
        }
    }

    /** A new object in which this text is laid; THE TEXT still holds it. */
    static DollsVote laid(String text) {
        DollsVote x = new DollsVote();
        type(x, text);
        if (x.lay() < 0) {
            throw new IllegalStateException("a test's text can't be laid: " + text);
        }
        return x;
    }

    /** What stands in a house, as a row. */
    static String row(DollsVote x, int h) {
        StringBuilder row = new StringBuilder();
        int rooms = x.count(1);
        for (int r = 0; r < rooms; r++) {
            row.append(x.room(h, r));
        }
        return row.toString();
    }

    static String rowBehind(DollsVote x, int n, int h) {
        StringBuilder row = new StringBuilder();
        int rooms = x.count(1);
        for (int r = 0; r < rooms; r++) {
            row.append(x.behind(n, h, r));
        }
        return row.toString();
    }

    /** All of the state that can be asked for without looking ahead, to see that nothing changed. */
    static String state(DollsVote x) {
        StringBuilder all = new StringBuilder();
        for (int what = 0; what <= 9; what++) {
            all.append(x.count(what)).append(' ');
        }
        return all.append(standing(x)).toString();
    }

    /** What stands in the houses, their mice and what is wanted. */
    static String standing(DollsVote x) {
        StringBuilder all = new StringBuilder();
        int houses = x.count(0);
        int rooms = x.count(1);
        for (int h = 0; h < houses; h++) {
            all.append(x.house(h, 0)).append(x.house(h, 1)).append(row(x, h)).append(' ');
        }
        for (int r = 0; r < rooms; r++) {
            all.append(x.wanted(r)).append(' ');
        }
        return all.toString();
    }
}
