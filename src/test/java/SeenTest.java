/** Promises 23 to 27: seen, forget, kinds, stood, tells. */
public final class SeenTest {
    private static final Due due = new Due();

    public static void main(String[] args) {
        seen();
        forget();
        kinds();
        stood();
        onSeveralDays();
        byNowNotByThen();
        tells();
        due.end();
    }

    private static void seen() {
        DollsVote x = new DollsVote();
        int[][] bad = {{-1, 0, 0, 0}, {21, 0, 0, 0}, {0, -1, 0, 0}, {0, 5, 0, 0}, {0, 0, -1, 0}, {0, 0, 4, 0},
            {0, 0, 0, -1}, {0, 0, 0, 10}};
        for (int[] b : bad) {
            due.is("23 seen of bad ones", DollsVote.BAD, x.seen(b[0], b[1], b[2], b[3]));
        }
        due.is("23 none yet", 0, x.count(6));
        due.is("23 one", 1, x.seen(20, 4, 3, 9));
        due.is("23 the same once more", 2, x.seen(20, 4, 3, 9));
        for (int i = 3; i <= 6; i++) {
            due.is("23 more", i, x.seen(0, 0, 0, 0));
        }
        due.is("23 a seventh", DollsVote.FULL, x.seen(0, 0, 0, 0));
        due.is("23 BAD ahead of FULL", DollsVote.BAD, x.seen(21, 0, 0, 0));
        due.is("23 six", 6, x.count(6));
    }

    private static void forget() {
        DollsVote x = new DollsVote();
        due.is("24 none", 0, x.forget());
        x.seen(0, 0, 0, 0);
        x.seen(0, 0, 0, 1);
        due.is("24 two", 2, x.forget());
        due.is("24 none are left", 0, x.count(6));
        due.is("24 all may be again", 1023, x.stood(0));
        due.is("24 from one on", 1, x.seen(0, 0, 0, 0));
    }

    private static void kinds() {
        DollsVote x = Due.laid("h0,12;h0,34;h0,56;");
        due.is("25 nothing seen", 15, x.kinds(0));
        due.is("25 kinds(-1)", DollsVote.BAD, x.kinds(-1));
        due.is("25 kinds(3)", DollsVote.BAD, x.kinds(3));
        x.seen(1, 0, 0, 3);
        due.is("25 plain", 1, x.kinds(0));
        due.is("25 of another, too soon to tell", 15, x.kinds(1));
        x.forget();
        x.seen(1, 0, 0, 2);
        due.is("25 slow", 2, x.kinds(0));
        x.forget();
        x.seen(1, 0, 0, 6);
        due.is("25 turned", 4, x.kinds(0));
        x.forget();
        x.seen(1, 0, 0, 4);
        due.is("25 carried", 8, x.kinds(0));
        x.seen(1, 0, 1, 4);
        due.is("25 none for both", 0, x.kinds(0));
        x = Due.laid("h0,12;h2,35;h0,56;");
        x.seen(1, 1, 0, 4);
        due.is("25 several", 2 + 4, x.kinds(1));
        due.is("25 its own stays", 2, x.house(1, 0));
        x.seen(20, 2, 1, 6);
        due.is("25 the last one's kind does nothing", 15, x.kinds(2));
        x.mouse(1);
        due.is("25 with a mouse it is not so", 0, x.kinds(1));
    }

    private static void stood() {
        DollsVote x = Due.laid("h0,12;h1,34;h0,56;");
        due.is("26 nothing seen", 1023, x.stood(0));
        due.is("26 stood(-1)", DollsVote.BAD, x.stood(-1));
        due.is("26 stood(2)", DollsVote.BAD, x.stood(2));
        x.seen(1, 1, 0, 4);
        due.is("26 slow: all above", 1008, x.stood(0));
        due.is("26 the other room: as it stands", 1023, x.stood(1));
        x.seen(2, 1, 0, 4);
        due.is("26 just that", 16, x.stood(0));
        due.is("26 the other room can't mend it", 0, x.stood(1));
        due.is("26 what stands there stays", 5, x.room(2, 0));
        x.forget();
        x.seen(0, 2, 0, 9);
        due.is("26 seen there itself", 512, x.stood(0));
        x.forget();
        x.seen(0, 0, 0, 9);
        due.is("26 seen where it can't be", 0, x.stood(0));
        x.forget();
        x.seen(20, 0, 1, 0);
        due.is("26 far ahead", 1, x.stood(1));
    }

    private static void onSeveralDays() {
        DollsVote x = Due.laid("h0,12;h0,34;h0,56;");
        x.seen(2, 0, 0, 5);
        x.seen(1, 0, 0, 3);
        x.seen(0, 0, 0, 1);
        due.is("25 each on its own day", 1, x.kinds(0));
        due.is("26 each on its own day", 32, x.stood(0));
        x.seen(2, 0, 1, 0);
        x.seen(0, 0, 1, 2);
        due.is("25 the furthest is not the last that was told", 0, x.kinds(0));
        due.is("26 the furthest is not the last that was told", 1, withoutFirst().stood(1));
    }

    private static DollsVote withoutFirst() {
        DollsVote x = Due.laid("h0,12;h0,34;h0,56;");
        x.seen(2, 0, 1, 0);
        x.seen(0, 0, 1, 2);
        return x;
    }

    private static void byNowNotByThen() {
        DollsVote x = Due.laid("h0,12;h0,34;");
        x.seen(0, 0, 0, 3);
        due.is("25 not yet", 0, x.kinds(0));
        x.pass(1);
        due.is("25 by how it stands when asked", 15, x.kinds(0));
        x.undo();
        due.is("25 again as then", 0, x.kinds(0));
    }

    private static void tells() {
        DollsVote x = Due.laid("h0,123;h1,123;h2,123;h0,158;");
        due.is("27 the last one itself", 10, x.tells(0, 3, 1));
        due.is("27 the lowest of several", 0, x.tells(0, 3, 0));
        due.is("27 nothing comes up yet", 1, x.tells(0, 0, 1));
        due.is("27 the first of all then", 0, x.tells(0, 0, 0));
        due.is("27 turned", 10, x.tells(1, 2, 1));
        due.is("27 slow on the second day", 3, x.tells(2, 1, 1));
        x = Due.laid("h1,059;h0,123;");
        due.is("27 slow at an edge tells less: which", 1, x.tells(1, 0, 0));
        due.is("27 slow at an edge tells less: how many", 3, x.tells(1, 0, 1));
        x = Due.laid("h3,000;h1,059;h0,123;");
        due.is("27 through a carried one", 1, x.tells(2, 0, 0));
        due.is("27 through a carried one, how many", 3, x.tells(2, 0, 1));
        due.is("27 far ahead", 10, x.tells(20, 0, 1));
        String ahead = Due.state(x);
        int[][] bad = {{-1, 0, 0}, {21, 0, 0}, {0, -1, 0}, {0, 3, 0}, {0, 0, -1}, {0, 0, 2}};
        for (int[] b : bad) {
            due.is("27 tells of bad ones", DollsVote.BAD, x.tells(b[0], b[1], b[2]));
        }
        x.kinds(0);
        x.stood(0);
        due.so("25 to 27 change nothing", ahead.equals(Due.state(x)));
    }
}
