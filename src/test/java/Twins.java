import java.util.function.Consumer;
import java.util.function.ToIntFunction;

/** Objects led alike, one of them asked what is refused: nothing may tell it from the other one then. */
final class Twins {
    private final Due due;
    private final Consumer<DollsVote> ahead;

    Twins(Due due, Consumer<DollsVote> ahead) {
        this.due = due;
        this.ahead = ahead;
    }

    /** Twins in which a text of eight acts, two kept and two seen are in use: whatever changes is told. */
    static Twins busy(Due due) {
        return new Twins(due, Twins::makeBusy);
    }

    static void makeBusy(DollsVote x) {
        Due.type(x, "h1,52;h2,07;h3,94;m1;q0,4;q1,7;");
        x.lay();
        x.pin(2, 0, 1);
        x.keep();
        x.pass(2);
        x.keep();
        x.mouse(0);
        x.chase(1);
        x.sneeze(2);
        x.want(0, 3);
        x.pin(1, 1, 6);
        x.pass(1);
        x.seen(1, 0, 0, 5);
        x.seen(2, 1, 1, 3);
    }

    void refused(String what, int answer, ToIntFunction<DollsVote> call) {
        DollsVote asked = new DollsVote();
        DollsVote left = new DollsVote();
        ahead.accept(asked);
        ahead.accept(left);
        due.is(what, answer, call.applyAsInt(asked));
        due.same(what + ", nothing changes: what it", all(left), all(asked));
    }

    /**
     * All that an object holds, down to the last that can be undone, that is kept, and the text.
     * It is used up by that: the object is of no use then.
     */
    static String all(DollsVote x) {
        StringBuilder all = new StringBuilder();
        tell(x, all);
        for (int left = x.count(7); left > 0; left--) {
            all.append(" undo ").append(x.undo());
            tell(x, all);
        }
        for (int left = x.count(8); left > 0; left--) {
            all.append(" back ").append(x.back());
            tell(x, all);
        }
        all.append(" fault ").append(x.fault()).append(" lay ").append(x.lay());
        tell(x, all);
        return all.toString();
    }

    /** How it stands now, by as few calls as it takes: an object has 512 in all. */
    private static void tell(DollsVote x, StringBuilder all) {
        for (int what = 0; what <= 9; what++) {
            all.append(' ').append(x.count(what));
        }
        int houses = x.count(0);
        int rooms = x.count(1);
        for (int h = 0; h < houses; h++) {
            all.append(" h").append(x.house(h, 0)).append(x.house(h, 1)).append(x.kinds(h)).append(' ');
            for (int r = 0; r < rooms; r++) {
                all.append(x.room(h, r));
            }
        }
        for (int r = 0; r < rooms; r++) {
            all.append(" r").append(x.wanted(r)).append(' ').append(x.stood(r));
        }
        all.append('\n');
    }
}
