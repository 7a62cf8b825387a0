import java.util.Arrays;
import java.util.Random;

/** Runs of 512 calls drawn from fixed seeds, each answer held against PlainModel's. */
public final class ModelTest {
    private static final Due due = new Due();
    private static final int CALLS = 512;
    private static final String[] ASKED = {
        "room hr", "house hw", "wanted r", "pass d", "pass d", "pin hrv", "pin hrv", "pin hrv", "sneeze h", "mouse h",
        "chase h", "want rV", "want rV", "undo ", "undo ", "behind nhr", "when rv", "rest ", "met n", "pins nR",
        "one nw", "harm nw", "seen mhrv", "seen mhrv", "forget ", "kinds h", "kinds h", "stood r", "stood r", "tells mhw",
        "likely lrvxw", "century zcW", "keep ", "back ", "count C", "fault ", "wipe ", "lay "};

    private final Random random;
    private final DollsVote x = new DollsVote();
    private final PlainModel model = new PlainModel();
    private final StringBuilder run = new StringBuilder();
    private int calls;

    private ModelTest(long seed) {
        random = new Random(seed);
    }

    public static void main(String[] args) throws Exception {
        int runs = args.length > 0 ? Integer.parseInt(args[0]) : 60;
        for (int seed = 0; seed < runs && due.allRight(); seed++) {
            new ModelTest(seed).go(seed);
        }
        due.end();
    }

    private void go(int seed) throws Exception {
        while (calls < CALLS && due.allRight()) {
            if (calls == 0 && seed % 4 != 0 || random.nextInt(150) == 0) {
                retype();
            } else {
                String[] asked = ASKED[random.nextInt(ASKED.length)].split(" ", 2);
                call(asked[0], numbers(asked[1]));
            }
        }
        if (!due.allRight()) {
            System.out.println("seed " + seed + ":" + run);
        }
    }

    private void retype() throws Exception {
        call("wipe");
        String text = text();
        for (int i = 0; i < text.length(); i++) {
            call("write", text.charAt(i));
        }
        call("fault");
        call("lay");
    }

    private String text() {
        StringBuilder text = new StringBuilder();
        int rooms = 2 + random.nextInt(random.nextInt(8) == 0 ? 4 : 2);
        int houses = 2 + random.nextInt(5);
        for (int h = 0; h < houses; h++) {
            text.append('h').append(random.nextInt(4)).append(',');
            for (int r = 0; r < rooms; r++) {
                text.append(random.nextInt(10));
            }
            text.append(';');
            if (random.nextInt(7) == 0) {
                text.append('m').append(random.nextInt(h + 1)).append(';');
            }
            if (random.nextInt(2) == 0) {
                text.append('q').append(random.nextInt(rooms)).append(',').append(random.nextInt(10)).append(';');
            }
        }
        if (random.nextInt(3) == 0) {
            text.setCharAt(random.nextInt(text.length()), "hmq0123456789,;x ".charAt(random.nextInt(17)));
        }
        return text.toString();
    }

    /** A number of each sort that the call takes, now and then one beyond the edge. */
    private int[] numbers(String sorts) {
        int[] numbers = new int[sorts.length()];
        for (int i = 0; i < numbers.length; i++) {
            numbers[i] = number(sorts.charAt(i));
        }
        return numbers;
    }

    private int number(char sort) {
        switch (sort) {
            case 'h': return edged(0, modelCount(0) - 1);
            case 'r': return edged(0, modelCount(1) - 1);
            case 'R': return edged(-1, modelCount(1) - 1);
            case 'v': return edged(0, 9);
            case 'V': return edged(0, 10);
            case 'w': return edged(0, 1);
            case 'W': return edged(0, 2);
            case 'C': return edged(0, 9);
            case 'd': return random.nextInt(3) == 0 ? edged(1, 20) : 1 + random.nextInt(3);
            case 'm': return random.nextInt(3) == 0 ? edged(0, 20) : random.nextInt(7);
            case 'l': return edged(0, 8);
            case 'x': return edged(0, 10);
            case 'z': return edged(0, 9999);
            case 'c': return edged(1, 60);
            default: return random.nextInt(3) == 0 ? edged(0, 40) : random.nextInt(10);
        }
    }

    /** Asked of the model, for the object has 512 calls in all. */
    private int modelCount(int what) {
        return model.ask("count", new int[] {what});
    }

    private int edged(int least, int most) {
        int kind = random.nextInt(40);
        if (kind == 0) {
            return least - 1;
        }
        if (kind == 1) {
            return most + 1;
        }
        if (kind == 2 && random.nextInt(4) == 0) {
            return random.nextBoolean() ? Integer.MAX_VALUE : Integer.MIN_VALUE;
        }
        return least + random.nextInt(most - least + 1);
    }

    private void call(String name, int... numbers) throws Exception {
        if (calls == CALLS) {
            return;
        }
        int got = Due.ask(x, name, numbers);
        String asked = name + Arrays.toString(numbers);
        run.append(' ').append(asked).append('=').append(got);
        calls++;
        // Five rooms at the bottom are a hundred thousand rows: too many for every call to try them all.
        if (name.equals("pins") && modelCount(1) > 3 && random.nextInt(8) != 0) {
            return;
        }
        due.is(asked, model.ask(name, numbers), got);
    }
}
