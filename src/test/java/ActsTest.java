/** Promises 9 to 15: pass, pin, sneeze, mouse, chase, want, undo. */
public final class ActsTest {
    private static final Due due = new Due();

    public static void main(String[] args) {
        pass();
        passBounds();
        pin();
        sneeze();
        mouse();
        chase();
        want();
        undoEach();
        undoLastEight();
        due.end();
    }

    private static void same(String what, String wanted, String got) {
        due.so(what + ": " + got + ", due is " + wanted, wanted.equals(got));
    }

    private static void pass() {
        DollsVote x = Due.laid("h0,123;h1,505;h2,046;h3,789;h0,159;");
        due.is("9 pass(1)", 1, x.pass(1));
        same("9 plain", "505", Due.row(x, 0));
        same("9 slow: down, equal.. nearer by 1", "416", Due.row(x, 1));
        same("9 turned", "210", Due.row(x, 2));
        same("9 carried", "591", Due.row(x, 3));
        same("9 the last one takes nothing", "159", Due.row(x, 4));
        x = Due.laid("h1,55;h0,55;");
        x.pass(1);
        same("9 slow stays at the same", "55", Due.row(x, 0));
        x = Due.laid("h0,11;h0,22;m1;h0,33;");
        x.pass(1);
        same("9 with a mouse within", "22", Due.row(x, 0));
        same("9 a mouse takes nothing", "22", Due.row(x, 1));
        x = Due.laid("h0,11;h0,22;h0,33;");
        due.is("9 pass(2)", 2, x.pass(2));
        same("9 two days", "33", Due.row(x, 0));
        x = Due.laid("h0,00;h0,99;m0;");
        due.is("9 days go by at rest", 20, x.pass(20));
        due.is("9 and more", 23, x.pass(3));
    }

    private static void passBounds() {
        DollsVote x = new DollsVote();
        for (int bad : new int[] {0, -1, 21, Integer.MAX_VALUE, Integer.MIN_VALUE}) {
            due.is("9 pass(" + bad + ")", DollsVote.BAD, x.pass(bad));
        }
        due.is("9 bad ones can't be undone", 0, x.count(7));
        for (int i = 1; i <= 49; i++) {
            due.is("9 pass(20)", 20 * i, x.pass(20));
        }
        due.is("9 980 and 20", DollsVote.NO, x.pass(20));
        due.is("9 pass(18)", 998, x.pass(18));
        due.is("9 998 and 2", DollsVote.NO, x.pass(2));
        due.is("9 BAD ahead of NO", DollsVote.BAD, x.pass(21));
        due.is("9 998 and 1", 999, x.pass(1));
        due.is("9 beyond", DollsVote.NO, x.pass(1));
        due.is("9 the day stays", 999, x.count(2));
        x.pin(0, 0, x.room(0, 0) == 0 ? 1 : 0);
        due.is("9 what comes goes beyond the last day", 2, x.behind(40, 0, 0));
    }

    private static void pin() {
        DollsVote x = new DollsVote();
        due.is("10 pin(1, 2, 0)", 5, x.pin(1, 2, 0));
        due.is("10 stands there", 0, x.room(1, 2));
        due.is("10 next to it nothing changes", 5, x.room(1, 1));
        due.is("10 again", DollsVote.NO, x.pin(1, 2, 0));
        due.is("10 pin to 9", 0, x.pin(1, 2, 9));
        due.is("10 the last house", 1, x.pin(4, 3, 2));
        String ahead = Due.state(x);
        int[][] bad = {{-1, 0, 0}, {5, 0, 0}, {0, -1, 0}, {0, 4, 0}, {0, 0, -1}, {0, 0, 10}, {9, 9, 9}};
        for (int[] b : bad) {
            due.is("10 pin(" + b[0] + ", " + b[1] + ", " + b[2] + ")", DollsVote.BAD, x.pin(b[0], b[1], b[2]));
        }
        x.pin(1, 2, 9);
        due.so("10 nothing changes then", ahead.equals(Due.state(x)));
    }

    private static void sneeze() {
        DollsVote x = new DollsVote();
        due.is("11 sneeze(0)", 4, x.sneeze(0));
        same("11 each in the next one", "4123", Due.row(x, 0));
        same("11 another house", "5555", Due.row(x, 1));
        due.is("11 sneeze(4)", 1, x.sneeze(4));
        same("11 the last house", "1432", Due.row(x, 4));
        due.is("11 where a mouse is", 0, x.sneeze(3));
        due.is("11 sneeze(-1)", DollsVote.BAD, x.sneeze(-1));
        due.is("11 sneeze(5)", DollsVote.BAD, x.sneeze(5));
        due.is("11 undone can be", 3, x.count(7));
        x = Due.laid("h0,12345;h0,67890;");
        due.is("11 five rooms", 5, x.sneeze(0));
        same("11 five rooms", "51234", Due.row(x, 0));
    }

    private static void mouse() {
        DollsVote x = new DollsVote();
        due.is("12 mouse(3)", DollsVote.NO, x.mouse(3));
        due.is("12 mouse(0)", 2, x.mouse(0));
        due.is("12 again", DollsVote.NO, x.mouse(0));
        due.is("12 the last house", 3, x.mouse(4));
        due.is("12 mouse(-1)", DollsVote.BAD, x.mouse(-1));
        due.is("12 mouse(5)", DollsVote.BAD, x.mouse(5));
        due.is("12 mouse(35)", DollsVote.BAD, x.mouse(35));
        due.is("12 it is there", 1, x.house(0, 1));
        due.is("12 undone can be", 2, x.count(7));
        x.pass(1);
        same("12 it takes nothing", "1234", Due.row(x, 0));
    }

    private static void chase() {
        DollsVote x = new DollsVote();
        due.is("13 chase(0)", DollsVote.NO, x.chase(0));
        due.is("13 chase(-1)", DollsVote.BAD, x.chase(-1));
        due.is("13 chase(5)", DollsVote.BAD, x.chase(5));
        x.mouse(0);
        due.is("13 chase(3)", 1, x.chase(3));
        due.is("13 again", DollsVote.NO, x.chase(3));
        due.is("13 it is gone", 0, x.house(3, 1));
        due.is("13 undone can be", 2, x.count(7));
        x.pass(1);
        same("13 it takes again", "3214", Due.row(x, 3));
    }

    private static void want() {
        DollsVote x = new DollsVote();
        due.is("14 want(0, 9)", 4, x.want(0, 9));
        due.is("14 wanted", 9, x.wanted(0));
        due.is("14 want(1, 0)", DollsVote.NONE, x.want(1, 0));
        due.is("14 the same", 0, x.want(1, 0));
        due.is("14 nothing", 0, x.want(1, 10));
        due.is("14 nothing again", DollsVote.NONE, x.want(1, 10));
        due.is("14 undone can be", 5, x.count(7));
        due.is("14 count", 2, x.count(4));
        String ahead = Due.state(x);
        int[][] bad = {{-1, 0}, {4, 0}, {0, -1}, {0, 11}, {-1, -1}};
        for (int[] b : bad) {
            due.is("14 want(" + b[0] + ", " + b[1] + ")", DollsVote.BAD, x.want(b[0], b[1]));
        }
        due.so("14 nothing changes then", ahead.equals(Due.state(x)));
    }

    private static void undoEach() {
        DollsVote x = Due.laid("h1,52;h2,07;h3,94;m1;q0,4;");
        x.wipe();
        due.is("15 nothing", DollsVote.NO, x.undo());
        String[] states = new String[7];
        states[0] = Due.state(x);
        x.pass(7);
        states[1] = Due.state(x);
        x.pin(2, 0, 1);
        states[2] = Due.state(x);
        x.sneeze(2);
        states[3] = Due.state(x);
        x.mouse(0);
        states[4] = Due.state(x);
        x.chase(1);
        states[5] = Due.state(x);
        x.want(1, 3);
        for (int i = 5; i >= 0; i--) {
            due.is("15 undo", i, x.undo());
            due.so("15 as it was ahead of act " + i, states[i].equals(Due.state(x)));
        }
        due.is("15 no more", DollsVote.NO, x.undo());
        x.seen(0, 0, 0, 1);
        x.keep();
        x.write('h');
        due.is("15 these are none to be undone", DollsVote.NO, x.undo());
        x.pass(1);
        x.undo();
        due.is("15 what is seen stays", 1, x.count(6));
        due.is("15 what is kept stays", 1, x.count(8));
        due.is("15 the text stays", 1, x.count(9));
    }

    private static void undoLastEight() {
        DollsVote x = Due.laid("h0,55;h0,55;");
        x.pass(1);
        x.pass(2);
        for (int i = 1; i <= 8; i++) {
            x.sneeze(0);
            due.is("15 such by which nothing becomes another", Math.min(8, i + 2), x.count(7));
        }
        for (int i = 7; i >= 0; i--) {
            due.is("15 of ten the last eight", i, x.undo());
        }
        due.is("15 not the ninth", DollsVote.NO, x.undo());
        due.is("15 the days ahead of them stay", 3, x.count(2));
        for (int i = 0; i < 20; i++) {
            x.pin(0, 0, i % 10 == 5 ? 6 : i % 10);
        }
        x.undo();
        x.undo();
        due.is("15 of twenty the eighteenth", 7, x.room(0, 0));
        x.pin(0, 1, 0);
        due.is("15 seven once more", 7, x.count(7));
    }
}
