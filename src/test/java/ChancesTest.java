/** Promises 28 and 29: likely, century. */
public final class ChancesTest {
    private static final Due due = new Due();

    public static void main(String[] args) {
        likely();
        likelyBad();
        century();
        centuryByHand();
        due.end();
    }

    private static void ratio(String what, DollsVote x, int[] call, int above, int below) {
        due.is("28 " + what + ", above", above, x.likely(call[0], call[1], call[2], call[3], 0));
        due.is("28 " + what + ", below", below, x.likely(call[0], call[1], call[2], call[3], 1));
    }

    private static void likely() {
        DollsVote x = Due.laid("h0,12;h0,34;");
        ratio("now it stands", x, new int[] {0, 0, 1, 5}, 1, 1);
        ratio("now it does not", x, new int[] {0, 0, 3, 5}, 0, 1);
        ratio("no sneeze", x, new int[] {1, 0, 3, 3}, 7, 10);
        ratio("a sneeze", x, new int[] {1, 0, 4, 3}, 3, 10);
        ratio("in lowest terms", x, new int[] {1, 0, 4, 4}, 2, 5);
        ratio("never a sneeze", x, new int[] {8, 0, 3, 0}, 1, 1);
        ratio("always a sneeze", x, new int[] {8, 0, 3, 10}, 1, 1);
        ratio("always a sneeze, an odd day", x, new int[] {7, 0, 3, 10}, 0, 1);
        ratio("two days, an even number", x, new int[] {2, 0, 3, 3}, 29, 50);
        ratio("eight days by 1 of ten", x, new int[] {8, 0, 3, 1}, 456161, 781250);
        ratio("another room", x, new int[] {1, 1, 3, 3}, 3, 10);
        x = Due.laid("h0,12;h0,34;h0,56;");
        ratio("a sneeze at the bottom comes too late", x, new int[] {1, 0, 3, 5}, 1, 1);
        ratio("a sneeze at the bottom comes in time", x, new int[] {2, 0, 6, 3}, 3, 10);
        x = Due.laid("h0,12;h0,34;m1;");
        ratio("a mouse at the bottom does nothing", x, new int[] {1, 0, 4, 3}, 3, 10);
        x = Due.laid("h0,12345;h0,01234;");
        ratio("five rooms, a full turn", x, new int[] {5, 0, 0, 10}, 1, 1);
        ratio("five rooms, eight days", x, new int[] {8, 0, 4, 9}, 744021, 5000000);
        x = Due.laid("h0,55;h0,33;");
        ratio("all the same", x, new int[] {8, 0, 3, 3}, 1, 1);
    }

    private static void likelyBad() {
        DollsVote x = new DollsVote();
        String ahead = Due.state(x);
        int[][] bad = {{-1, 0, 0, 0, 0}, {9, 0, 0, 0, 0}, {0, -1, 0, 0, 0}, {0, 4, 0, 0, 0}, {0, 0, -1, 0, 0},
            {0, 0, 10, 0, 0}, {0, 0, 0, -1, 0}, {0, 0, 0, 11, 0}, {0, 0, 0, 0, -1}, {0, 0, 0, 0, 2}};
        for (int[] b : bad) {
            due.is("28 likely of bad ones", DollsVote.BAD, x.likely(b[0], b[1], b[2], b[3], b[4]));
        }
        x.likely(8, 3, 9, 10, 1);
        due.so("28 changes nothing", ahead.equals(Due.state(x)));
    }

    private static void century() {
        DollsVote x = new DollsVote();
        x.pass(3);
        String ahead = Due.state(x);
        int[][] bad = {{-1, 1, 0}, {10000, 1, 0}, {0, 0, 0}, {0, 61, 0}, {0, 1, -1}, {0, 1, 3}};
        for (int[] b : bad) {
            due.is("29 century of bad ones", DollsVote.BAD, x.century(b[0], b[1], b[2]));
        }
        for (int what = 0; what <= 2; what++) {
            due.so("29 the last century", x.century(9999, 60, what) >= 0);
        }
        due.so("29 nothing changes", ahead.equals(Due.state(x)));
    }

    /** A century lived by the public acts: the draws by BigInteger, each act by its own call. */
    private static void centuryByHand() {
        String text = "h0,1234;h1,5555;h2,0918;h3,7260;h0,4321;m3;q0,4;q2,7;q1,9;q3,1;";
        for (int z = 0; z <= 9999; z += 99) {
            DollsVote x = Due.laid(text);
            DollsVote asked = Due.laid(text);
            for (int d = 0; d < 60; d++) {
                act(x, draw(z, d));
                x.pass(1);
                String call = "29 century(" + z + ", " + (d + 1) + ", ";
                due.is(call + "0)", x.count(5), asked.century(z, d + 1, 0));
                due.is(call + "1)", x.room(0, 0), asked.century(z, d + 1, 1));
                due.is(call + "2)", x.count(3), asked.century(z, d + 1, 2));
            }
        }
    }

    private static int draw(int z, int d) {
        java.math.BigInteger x = java.math.BigInteger.valueOf(7919).multiply(java.math.BigInteger.valueOf(z))
            .add(java.math.BigInteger.valueOf(6151).multiply(java.math.BigInteger.valueOf(d)))
            .add(java.math.BigInteger.ONE);
        return x.multiply(x).mod(java.math.BigInteger.valueOf(65521)).intValue() / 2;
    }

    private static void act(DollsVote x, int draw) {
        int h = draw % x.count(0);
        int r = draw / 8 % x.count(1);
        int deed = draw / 64 % 6;
        if (deed == 0) {
            x.pin(h, r, draw / 512 % 10);
        } else if (deed == 1) {
            x.sneeze(h);
        } else if (deed == 2 && x.mouse(h) == DollsVote.NO) {
            x.chase(h);
        }
    }
}
