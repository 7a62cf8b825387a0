/** Promises 16 to 22: behind, when, rest, met, pins, one, harm. */
public final class ComesUpTest {
    private static final Due due = new Due();

    public static void main(String[] args) {
        behind();
        when();
        rest();
        met();
        pins();
        pinsThroughKinds();
        one();
        harm();
        nothingChanges();
        due.end();
    }

    private static void behind() {
        DollsVote x = Due.laid("h3,123;h1,505;h2,046;h0,789;");
        due.so("16 now", Due.rowBehind(x, 0, 0).equals("123"));
        for (int n = 1; n <= 40; n++) {
            DollsVote ahead = Due.laid("h3,123;h1,505;h2,046;h0,789;");
            DollsVote there = Due.laid("h3,123;h1,505;h2,046;h0,789;");
            for (int day = 0; day < n; day++) {
                there.pass(1);
            }
            for (int h = 0; h < 4; h++) {
                due.same("16 behind " + n + " in " + h, Due.row(there, h), Due.rowBehind(ahead, n, h));
            }
        }
        int[][] bad = {{-1, 0, 0}, {41, 0, 0}, {0, -1, 0}, {0, 4, 0}, {0, 0, -1}, {0, 0, 3}};
        for (int[] b : bad) {
            due.is("16 behind(" + b[0] + ", " + b[1] + ", " + b[2] + ")", DollsVote.BAD, x.behind(b[0], b[1], b[2]));
        }
    }

    private static void when() {
        DollsVote x = Due.laid("h0,12;h0,34;h0,12;");
        due.is("17 now", 0, x.when(0, 1));
        due.is("17 then", 1, x.when(0, 3));
        due.is("17 the other room", 1, x.when(1, 4));
        due.is("17 never", DollsVote.NONE, x.when(0, 2));
        due.is("17 far", 9, Due.laid("h1,00;h0,99;").when(0, 9));
        int[][] bad = {{-1, 0}, {2, 0}, {0, -1}, {0, 10}};
        for (int[] b : bad) {
            due.is("17 when(" + b[0] + ", " + b[1] + ")", DollsVote.BAD, x.when(b[0], b[1]));
        }
    }

    private static void rest() {
        due.is("18 at rest", 0, Due.laid("h0,12;h0,12;").rest());
        due.is("18 held by mice", 0, Due.laid("h0,12;h0,34;m0;").rest());
        due.is("18 only at the top it seems to rest", 3, Due.laid("h0,12;h0,12;h0,12;h0,34;").rest());
        due.is("18 slow", 9, Due.laid("h1,05;h0,95;").rest());
        due.is("18 new", 5, new DollsVote().rest());
    }

    private static void met() {
        DollsVote x = Due.laid("h0,12345;h0,67890;q0,6;q1,2;q2,8;q4,0;");
        due.is("19 now", 2, x.met(0));
        due.is("19 then", 1 + 4 + 16, x.met(1));
        due.is("19 behind 40", 1 + 4 + 16, x.met(40));
        due.is("19 met(-1)", DollsVote.BAD, x.met(-1));
        due.is("19 met(41)", DollsVote.BAD, x.met(41));
        due.is("19 nothing wanted", 0, Due.laid("h0,12;h0,34;").met(1));
    }

    private static void pins() {
        DollsVote x = Due.laid("h0,12;h0,34;q0,7;q1,4;");
        due.is("20 one room", 1, x.pins(1, -1));
        due.is("20 what then stands there", 7, x.pins(1, 0));
        due.is("20 what stays there", 4, x.pins(1, 1));
        int[][] bad = {{0, -1}, {-1, 0}, {41, 0}, {1, -2}, {1, 2}, {1, Integer.MIN_VALUE}};
        for (int[] b : bad) {
            due.is("20 pins(" + b[0] + ", " + b[1] + ")", DollsVote.BAD, x.pins(b[0], b[1]));
        }
        due.is("20 none is needed", 0, Due.laid("h0,12;h0,34;q0,3;").pins(1, -1));
        due.is("20 none is needed, what stands", 3, Due.laid("h0,12;h0,34;q0,3;").pins(1, 0));
        due.is("20 nothing wanted", 0, Due.laid("h0,12;h0,34;").pins(40, -1));
        due.is("20 too soon", DollsVote.NONE, Due.laid("h0,12;h0,34;h0,56;q0,7;").pins(1, -1));
        due.is("20 met for now though too soon", 0, Due.laid("h0,12;h0,34;h0,56;q0,3;").pins(1, -1));
        due.is("20 in time", 1, Due.laid("h0,12;h0,34;h0,56;q0,7;").pins(2, -1));
        due.is("20 a mouse between", DollsVote.NONE, Due.laid("h0,12;h0,34;m1;h0,56;q0,7;").pins(9, -1));
        due.is("20 a mouse at the bottom", 1, Due.laid("h0,12;h0,34;h0,56;m2;q0,7;").pins(9, -1));
        due.is("20 one of two can't be: none", DollsVote.NONE, Due.laid("h1,19;h0,34;q0,2;q1,1;").pins(1, 0));
    }

    private static void pinsThroughKinds() {
        DollsVote x = Due.laid("h1,50;h0,12;q0,6;");
        due.is("20 slow, the least one of several", 6, x.pins(1, 0));
        due.is("20 slow, less far", 7, Due.laid("h1,50;h0,12;q0,7;").pins(2, 0));
        due.is("20 slow, down: the least one", 0, Due.laid("h1,50;h0,82;q0,3;").pins(2, 0));
        due.is("20 slow, too far", DollsVote.NONE, Due.laid("h1,50;h0,12;q0,8;").pins(2, 0));
        due.is("20 turned", 2, Due.laid("h2,50;h0,12;q0,7;").pins(1, 0));
        x = Due.laid("h3,500;h3,500;h0,123;q0,9;");
        due.is("20 carried twice", 9, x.pins(2, 2));
        due.is("20 carried twice, another room", 1, x.pins(2, 0));
        x = Due.laid("h3,50000;h0,12345;q4,9;q3,5;");
        due.is("20 carried past the last room", 9, x.pins(1, 0));
        due.is("20 one moved", 1, x.pins(1, -1));
        x = Due.laid("h0,55555;h0,12345;q0,9;q1,9;q2,9;q3,9;q4,9;");
        due.is("20 all five", 5, x.pins(1, -1));
    }

    private static void one() {
        DollsVote x = Due.laid("h0,12;h0,34;q0,7;q1,8;");
        due.is("21 now", 7, x.one(0, 0));
        due.is("21 now how many", 1, x.one(0, 1));
        due.is("21 from within", 107, x.one(1, 0));
        due.is("21 with those that are met anyway", 2, Due.laid("h0,12;h0,34;q0,7;q1,4;").one(1, 1));
        x = Due.laid("h0,12;h0,34;q0,1;q1,2;");
        due.is("21 all met: one that does no harm", 100, x.one(0, 0));
        due.is("21 all met", 2, x.one(0, 1));
        x = Due.laid("h0,02;h0,04;");
        due.is("21 nothing wanted: the first that changes", 1, x.one(5, 0));
        due.is("21 nothing wanted: none", 0, x.one(5, 1));
        x = Due.laid("h0,12;h0,12;q0,1;q1,2;");
        due.is("21 at the top it goes by", 0, x.one(1, 0));
        x = Due.laid("h0,12;m0;h0,12;q0,1;q1,2;");
        due.is("21 at the top with a mouse it would stay", 100, x.one(1, 0));
        x = Due.laid("h3,120;h0,120;q2,9;");
        due.is("21 through a carried one", 109, x.one(1, 0));
        int[][] bad = {{-1, 0}, {41, 0}, {0, -1}, {0, 2}};
        for (int[] b : bad) {
            due.is("21 one(" + b[0] + ", " + b[1] + ")", DollsVote.BAD, x.one(b[0], b[1]));
        }
        x.one(40, 1);
    }

    private static void harm() {
        DollsVote x = Due.laid("h0,12;h0,34;h0,56;q0,5;q1,6;");
        due.is("22 behind 2", 0, x.harm(2, 0));
        due.is("22 behind 2, how many", 0, x.harm(2, 1));
        due.is("22 now, the lowest of several", 0, x.harm(0, 0));
        x = Due.laid("h0,12;h0,34;h0,56;q0,1;q1,6;");
        due.is("22 a mouse at the top would help", 1, x.harm(2, 0));
        due.is("22 a mouse within", 0, x.harm(2, 1));
        x = Due.laid("h0,12;m0;h0,34;m1;h0,56;q0,1;");
        due.is("22 the last one is left", 2, x.harm(2, 0));
        due.is("22 the last one, how many", 1, x.harm(2, 1));
        x.mouse(2);
        due.is("22 none is left", DollsVote.NONE, x.harm(2, 0));
        due.is("22 none is left, how many", DollsVote.NONE, x.harm(2, 1));
        int[][] bad = {{-1, 0}, {41, 0}, {0, -1}, {0, 2}};
        for (int[] b : bad) {
            due.is("22 harm(" + b[0] + ", " + b[1] + ")", DollsVote.BAD, x.harm(b[0], b[1]));
        }
        due.is("22 behind 40", 0, Due.laid("h0,12;h0,34;q0,3;").harm(40, 1));
    }

    private static void nothingChanges() {
        DollsVote x = new DollsVote();
        x.pass(2);
        String ahead = Due.state(x);
        x.behind(40, 0, 0);
        x.when(0, 9);
        x.rest();
        x.met(40);
        x.pins(40, -1);
        x.one(40, 0);
        x.harm(40, 0);
        due.so("16 to 22 change nothing", ahead.equals(Due.state(x)));
    }
}
