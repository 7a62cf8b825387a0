import java.util.Arrays;

/**
 * Every number that a call takes, at its least and its most and one beyond, in nurseries of the least and the most
 * houses and rooms: at the bounds each answer is PlainModel's and none is BAD, beyond them all are BAD.
 */
public final class NumbersBoundsTest {
    private static final Due due = new Due();
    private static final String[] CALLS = {
        "write 32..126", "room h r", "house h 0..1", "wanted r", "pass 1..20", "pin h r 0..9", "sneeze h", "mouse h",
        "chase h", "want r 0..10", "behind 0..40 h r", "when r 0..9", "met 0..40", "pins 1..40 R", "one 0..40 0..1",
        "harm 0..40 0..1", "seen 0..20 h r 0..9", "kinds h", "stood r", "tells 0..20 h 0..1",
        "likely 0..8 r 0..9 0..10 0..1", "century 0..9999 1..60 0..2", "count 0..9"};
    private static final String[] TEXTS = {
        "h1,09;h0,90;q1,5;",
        "h2,12;h3,89;m0;m1;q0,1;q1,9;",
        "h0,1234;h1,5555;h2,0918;h3,7260;h0,4321;m3;q0,4;q2,7;",
        "h0,12345;h1,90909;h2,34567;h3,00999;h1,56789;h0,67890;m5;q0,9;q4,0;"};

    public static void main(String[] args) throws Exception {
        for (String text : TEXTS) {
            for (String call : CALLS) {
                String[] parts = call.split(" ");
                int[][] bounds = bounds(parts, Due.laid(text));
                atTheBounds(text, parts[0], bounds);
                beyondTheBounds(text, parts[0], bounds);
            }
        }
        due.end();
    }

    /** For each number of the call: the least and the most. */
    private static int[][] bounds(String[] parts, DollsVote x) {
        int[][] bounds = new int[parts.length - 1][];
        for (int i = 0; i < bounds.length; i++) {
            String part = parts[i + 1];
            switch (part) {
                case "h": bounds[i] = new int[] {0, x.count(0) - 1}; break;
                case "r": bounds[i] = new int[] {0, x.count(1) - 1}; break;
                case "R": bounds[i] = new int[] {-1, x.count(1) - 1}; break;
                default: bounds[i] = Arrays.stream(part.split("\\.\\.")).mapToInt(Integer::parseInt).toArray();
            }
        }
        return bounds;
    }

    private static int[] corner(int[][] bounds, int bits) {
        int[] numbers = new int[bounds.length];
        for (int i = 0; i < numbers.length; i++) {
            numbers[i] = bounds[i][bits >> i & 1];
        }
        return numbers;
    }

    private static void atTheBounds(String text, String name, int[][] bounds) throws Exception {
        for (int bits = 0; bits < 1 << bounds.length; bits++) {
            int[] numbers = corner(bounds, bits);
            PlainModel model = new PlainModel();
            for (int i = 0; i < text.length(); i++) {
                model.ask("write", new int[] {text.charAt(i)});
            }
            model.ask("lay", new int[0]);
            int got = Due.ask(Due.laid(text), name, numbers);
            String asked = text + " " + name + Arrays.toString(numbers);
            due.is(asked, model.ask(name, numbers), got);
            due.so(asked + " is not BAD", got != DollsVote.BAD);
        }
    }

    private static void beyondTheBounds(String text, String name, int[][] bounds) throws Exception {
        for (int bits = 0; bits < 1 << bounds.length; bits++) {
            DollsVote x = Due.laid(text);
            String ahead = Due.state(x);
            for (int i = 0; i < bounds.length; i++) {
                for (int bad : new int[] {bounds[i][0] - 1, bounds[i][1] + 1, Integer.MIN_VALUE, Integer.MAX_VALUE}) {
                    int[] numbers = corner(bounds, bits);
                    numbers[i] = bad;
                    String asked = text + " " + name + Arrays.toString(numbers);
                    due.is(asked, DollsVote.BAD, Due.ask(x, name, numbers));
                }
            }
            due.same(text + " " + name + " changes nothing: it", ahead, Due.state(x));
        }
    }
}
