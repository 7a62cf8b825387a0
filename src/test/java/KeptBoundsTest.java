/** The bounds that part 4 of the document and promises 30 to 32 name: of what is kept, and of counting. */
public final class KeptBoundsTest {
    private static final Due due = new Due();
    private static final int BAD = DollsVote.BAD, NO = DollsVote.NO, FULL = DollsVote.FULL;

    public static void main(String[] args) {
        twoAreKeptAtMost();
        keepChangesNothingElse();
        backOfNothing();
        backIsTheLastKept();
        nothingIsUndoneThen();
        textAndSeenAreNotKept();
        keptStaysBehindUndone();
        countIs0To9();
        countsAtTheirLeast();
        countsAtTheirMost();
        due.end();
    }

    // "2 at most", 30: "how many. FULL"
    private static void twoAreKeptAtMost() {
        DollsVote x = new DollsVote();
        due.is("30 one", 1, x.keep());
        due.is("30 two", 2, x.keep());
        due.is("30 three", FULL, x.keep());
        due.is("32 it stays at two", 2, x.count(8));
        Twins.busy(due).refused("30 a third", FULL, DollsVote::keep);
        due.is("31 one is left", 1, x.back());
        due.is("30 place again", 2, x.keep());
        due.is("30 but for one", FULL, x.keep());
    }

    private static void keepChangesNothingElse() {
        DollsVote x = new DollsVote();
        x.pass(3);
        x.seen(0, 0, 0, 0);
        x.write('h');
        x.keep();
        int[] counts = {5, 4, 3, 1, 2, x.count(5), 1, 1, 1, 1};
        for (int what = 0; what <= 9; what++) {
            due.is("30 count(" + what + ")", counts[what], x.count(what));
        }
        due.is("15 undone is what was ahead", 0, x.undo());
        due.is("32 the day", 0, x.count(2));
    }

    // 31: "NO"
    private static void backOfNothing() {
        new Twins(due, y -> { }).refused("31 a new object", NO, DollsVote::back);
        new Twins(due, y -> {
            y.pass(1);
            y.seen(0, 0, 0, 0);
            y.write('h');
        }).refused("31 nothing kept", NO, DollsVote::back);
        new Twins(due, y -> {
            y.keep();
            y.keep();
            y.back();
            y.back();
            y.mouse(0);
        }).refused("31 none is left", NO, DollsVote::back);
        new Twins(due, y -> {
            y.keep();
            Due.type(y, "h0,12;h0,34;");
            y.lay();
            y.sneeze(0);
        }).refused("31 laid anew", NO, DollsVote::back);
    }

    // 31: "As KEPT last (it is KEPT no more then): how many are left"
    private static void backIsTheLastKept() {
        DollsVote x = Due.laid("h0,12;h0,34;q0,9;");
        x.keep();
        x.pass(1);
        x.mouse(1);
        x.want(0, 10);
        x.want(1, 5);
        x.pin(1, 0, 7);
        x.keep();
        x.pass(20);
        x.chase(1);
        x.want(1, 6);
        due.is("31 the last one: how many are left", 1, x.back());
        due.same("31 the last one", "0034 0174 -4 5 ", Due.standing(x));
        due.is("31 its day", 1, x.count(2));
        due.is("31 the first one: how many are left", 0, x.back());
        due.same("31 the first one", "0012 0034 9 -4 ", Due.standing(x));
        due.is("31 its day", 0, x.count(2));
        due.is("31 it is kept no more", NO, x.back());
    }

    // 31: "nothing is UNDONE then"
    private static void nothingIsUndoneThen() {
        DollsVote x = new DollsVote();
        x.pass(1);
        x.keep();
        x.pass(1);
        due.is("32 two ahead", 2, x.count(7));
        x.back();
        due.is("32 none then", 0, x.count(7));
        due.is("15 nothing to undo", NO, x.undo());
        due.is("32 the day stays", 1, x.count(2));
        x.pass(2);
        due.is("15 but what is done anew", 0, x.undo());
        due.is("32 the day as it came back", 1, x.count(2));
    }

    // "KEPT is all as it stands, but THE TEXT and what is SEEN"
    private static void textAndSeenAreNotKept() {
        DollsVote x = new DollsVote();
        x.write('a');
        x.seen(0, 0, 0, 1);
        x.keep();
        x.keep();
        x.write('b');
        x.seen(0, 0, 0, 2);
        x.back();
        due.is("32 more was seen", 2, x.count(6));
        due.is("32 more was written", 2, x.count(9));
        x.forget();
        x.wipe();
        x.back();
        due.is("32 it is forgotten", 0, x.count(6));
        due.is("32 it is wiped", 0, x.count(9));
    }

    private static void keptStaysBehindUndone() {
        DollsVote x = new DollsVote();
        x.pass(1);
        x.keep();
        x.undo();
        due.is("32 kept still", 1, x.count(8));
        due.is("31 back", 0, x.back());
        due.is("32 the day on which it was kept", 1, x.count(2));
    }

    // 32: "BAD"
    private static void countIs0To9() {
        Twins twins = Twins.busy(due);
        for (int bad : new int[] {-1, 10, Integer.MIN_VALUE, Integer.MAX_VALUE}) {
            twins.refused("32 count(" + bad + ")", BAD, y -> y.count(bad));
        }
    }

    private static void counts(String what, DollsVote x, int... counts) {
        for (int i = 0; i < counts.length; i++) {
            due.is("32 " + what + ", count(" + i + ")", counts[i], x.count(i));
        }
    }

    private static void countsAtTheirLeast() {
        DollsVote x = Due.laid("h0,12;h0,34;");
        x.wipe();
        counts("the least", x, 2, 2, 0, 0, 0, 0, 0, 0, 0, 0);
        counts("a new object", new DollsVote(), 5, 4, 0, 1, 2, 0, 0, 0, 0, 0);
    }

    private static void countsAtTheirMost() {
        String house = "h0,12345;";
        String text = house.repeat(6) + "m0;m1;m2;m3;m4;m5;q0,1;q1,2;q2,3;q3,4;q4,5;" + "m0;".repeat(34);
        DollsVote x = Due.laid(text);
        Due.type(x, "x".repeat(200 - x.count(9)));
        for (int i = 0; i < 49; i++) {
            x.pass(20);
        }
        x.pass(19);
        for (int i = 0; i < 7; i++) {
            x.seen(0, 0, 0, 0);
            x.keep();
        }
        x.write('x');
        counts("the most", x, 6, 5, 999, 6, 5, 5, 6, 8, 2, 200);
    }
}
