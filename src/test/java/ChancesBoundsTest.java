/** The bounds that part 4 of the document and promises 28 and 29 name: of chances and centuries. */
public final class ChancesBoundsTest {
    private static final Due due = new Due();
    private static final int BAD = DollsVote.BAD;
    private static final String MOST = "h0,12345;h1,23456;h2,34567;h3,45678;h0,56789;h1,67890;q0,6;q1,7;q2,8;q3,9;q4,0;";

    public static void main(String[] args) {
        likelyIs0To8();
        likelyIsByOfTen();
        likelyIsOfWhatThereIs();
        likelyInLowestTerms();
        likelyIsASneezeInTheLastHouse();
        likelyGoesRound();
        centuryIsBy0To9999();
        centuryIs1To60();
        centuryWhat();
        centuryActs();
        centuryCountsItsOwnDays();
        centuryChangesNothing();
        due.end();
    }

    private static void likely(String what, String text, int[] call, int above, int below) {
        DollsVote x = Due.laid(text);
        due.is("28 " + what + ", above", above, x.likely(call[0], call[1], call[2], call[3], 0));
        due.is("28 " + what + ", below", below, x.likely(call[0], call[1], call[2], call[3], 1));
    }

    // "LIKELY for n (0 to 8)"
    private static void likelyIs0To8() {
        likely("behind none it stands there", "h0,12;h0,34;", new int[] {0, 0, 1, 7}, 1, 1);
        likely("behind none it does not", "h0,12;h0,34;", new int[] {0, 0, 4, 7}, 0, 1);
        likely("behind 1", "h0,12;h0,34;", new int[] {1, 0, 4, 7}, 7, 10);
        likely("behind 8", "h1,33740;h1,81241;", new int[] {8, 0, 8, 7}, 6561, 100000000);
        Twins twins = Twins.busy(due);
        for (int bad : new int[] {-1, 9, Integer.MIN_VALUE, Integer.MAX_VALUE}) {
            twins.refused("28 behind " + bad, BAD, y -> y.likely(bad, 0, 0, 0, 0));
        }
    }

    // "by x (0 to 10) of ten"
    private static void likelyIsByOfTen() {
        likely("never a sneeze", "h0,12;h0,34;", new int[] {1, 0, 3, 0}, 1, 1);
        likely("never a sneeze, so never the other one", "h0,12;h0,34;", new int[] {1, 0, 4, 0}, 0, 1);
        likely("by one of ten", "h0,12;h0,34;", new int[] {1, 0, 4, 1}, 1, 10);
        likely("by nine of ten", "h0,12;h0,34;", new int[] {1, 0, 4, 9}, 9, 10);
        likely("always a sneeze", "h0,12;h0,34;", new int[] {1, 0, 4, 10}, 1, 1);
        likely("always a sneeze, so never the same", "h0,12;h0,34;", new int[] {1, 0, 3, 10}, 0, 1);
        Twins twins = Twins.busy(due);
        for (int bad : new int[] {-1, 11}) {
            twins.refused("28 by " + bad + " of ten", BAD, y -> y.likely(0, 0, 0, bad, 0));
        }
    }

    private static void likelyIsOfWhatThereIs() {
        likely("the last room of five", MOST, new int[] {0, 4, 5, 5}, 1, 1);
        likely("the least thing", "h0,09;h0,34;", new int[] {0, 0, 0, 5}, 1, 1);
        likely("the most thing", "h0,09;h0,34;", new int[] {0, 1, 9, 5}, 1, 1);
        Twins twins = Twins.busy(due);
        twins.refused("28 no room", BAD, y -> y.likely(0, 2, 0, 0, 0));
        twins.refused("28 no room below 0", BAD, y -> y.likely(0, -1, 0, 0, 0));
        twins.refused("28 nothing of that kind", BAD, y -> y.likely(0, 0, 10, 0, 0));
        twins.refused("28 nothing of that kind below 0", BAD, y -> y.likely(0, 0, -1, 0, 0));
        twins.refused("28 no part", BAD, y -> y.likely(0, 0, 0, 0, 2));
        twins.refused("28 no part below 0", BAD, y -> y.likely(0, 0, 0, 0, -1));
    }

    // "in lowest terms"
    private static void likelyInLowestTerms() {
        likely("by 2", "h0,12;h0,34;", new int[] {1, 0, 4, 4}, 2, 5);
        likely("by 5", "h0,12;h0,34;", new int[] {1, 0, 4, 5}, 1, 2);
        likely("half and half, eight days", "h0,12;h0,34;", new int[] {8, 0, 4, 5}, 1, 2);
        likely("never is none of one", "h0,12;h0,34;", new int[] {8, 0, 9, 3}, 0, 1);
        likely("always is one of one", "h0,12;h0,33;", new int[] {8, 0, 3, 3}, 1, 1);
        likely("two days, 42 of a hundred", "h0,12;h0,34;", new int[] {2, 0, 4, 3}, 21, 50);
    }

    // "ahead of each of the next n DAYS there is a SNEEZE in the last HOUSE"
    private static void likelyIsASneezeInTheLastHouse() {
        String six = "h0,12;h0,12;h0,12;h0,12;h0,12;h0,34;";
        likely("it comes up behind five", six, new int[] {5, 0, 4, 3}, 3, 10);
        likely("behind four nothing has", six, new int[] {4, 0, 1, 3}, 1, 1);
        likely("behind six two sneezes tell", six, new int[] {6, 0, 4, 3}, 21, 50);
        likely("held by a mouse", "h0,12;m0;h0,34;", new int[] {8, 0, 1, 3}, 1, 1);
    }

    private static void likelyGoesRound() {
        likely("two rooms, once round", "h0,12;h0,34;", new int[] {2, 0, 3, 10}, 1, 1);
        likely("five rooms, once round", "h0,00000;h0,12345;", new int[] {5, 0, 1, 10}, 1, 1);
        likely("five rooms, a day less", "h0,00000;h0,12345;", new int[] {4, 0, 2, 10}, 1, 1);
        likely("five rooms, a day more", "h0,00000;h0,12345;", new int[] {6, 0, 5, 10}, 1, 1);
    }

    private static void century(String what, String text, int[] call, int[] answers) {
        DollsVote x = Due.laid(text);
        for (int i = 0; i < 3; i++) {
            due.is("29 " + what + ", " + i, answers[i], x.century(call[0], call[1], i));
        }
    }

    // "A CENTURY by z (0 to 9999)"
    private static void centuryIsBy0To9999() {
        String first = "h0,1234;h1,5555;h2,0918;h3,7260;h0,4321;m3;q0,4;q2,7;";
        century("by the least", first, new int[] {0, 60}, new int[] {0, 6, 1});
        century("by the next", first, new int[] {1, 59}, new int[] {0, 3, 2});
        century("by the last but one", first, new int[] {9998, 60}, new int[] {0, 3, 4});
        century("by the most", first, new int[] {9999, 60}, new int[] {0, 6, 1});
        century("by the most, six houses", MOST, new int[] {9999, 60}, new int[] {0, 8, 4});
        Twins twins = Twins.busy(due);
        for (int bad : new int[] {-1, 10000, Integer.MIN_VALUE, Integer.MAX_VALUE}) {
            twins.refused("29 by " + bad, BAD, y -> y.century(bad, 1, 0));
        }
    }

    // "of n (1 to 60) DAYS from now on"
    private static void centuryIs1To60() {
        century("of one", MOST, new int[] {0, 1}, new int[] {0, 2, 0});
        century("of sixty", MOST, new int[] {0, 60}, new int[] {0, 1, 4});
        Twins twins = Twins.busy(due);
        for (int bad : new int[] {0, 61, -1, Integer.MIN_VALUE, Integer.MAX_VALUE}) {
            twins.refused("29 of " + bad, BAD, y -> y.century(0, bad, 0));
        }
    }

    // 29: "MET (what = 0), ROOM 0 at the top (1), MICE (2). BAD"
    private static void centuryWhat() {
        century("how many, not bits", "h0,12345;h0,12345;q4,5;", new int[] {2, 1}, new int[] {1, 1, 0});
        century("all five", "h0,12345;h0,12345;q0,1;q1,2;q2,3;q3,4;q4,5;", new int[] {2, 1}, new int[] {5, 1, 0});
        century("nothing is wanted", "h0,12;h0,34;", new int[] {2, 1}, new int[] {0, 3, 0});
        Twins twins = Twins.busy(due);
        twins.refused("29 nothing to tell", BAD, y -> y.century(0, 1, 3));
        twins.refused("29 nothing to tell below 0", BAD, y -> y.century(0, 1, -1));
    }

    // What a single draw does to two houses of two rooms; the draw's parts are worked out by hand.
    private static void centuryActs() {
        String text = "h0,12;h0,34;q0,3;q1,4;";
        String mouse = "h0,12;m0;h0,34;q0,3;q1,4;";
        century("draw 0 puts 0 at the top, and the day takes it", text, new int[] {0, 1}, new int[] {2, 3, 0});
        century("draw 0 puts 0 at the top, where a mouse is", mouse, new int[] {0, 1}, new int[] {0, 0, 1});
        century("draw 22335 puts 3 in the last room", text, new int[] {3, 1}, new int[] {1, 3, 0});
        century("draw 25811 is a sneeze at the bottom", text, new int[] {18, 1}, new int[] {0, 4, 0});
        century("draw 7086 lets a mouse in at the top", text, new int[] {14, 1}, new int[] {0, 1, 1});
        century("draw 7086 chases it, if there is one", mouse, new int[] {14, 1}, new int[] {2, 3, 0});
        century("draw 4407 lets a mouse in at the bottom", text, new int[] {26, 1}, new int[] {2, 3, 1});
        century("draw 29766 does nothing (3)", text, new int[] {2, 1}, new int[] {2, 3, 0});
        century("draw 11401 does nothing (4)", text, new int[] {1, 1}, new int[] {2, 3, 0});
        century("draw 21867 does nothing (5)", text, new int[] {4, 1}, new int[] {2, 3, 0});
    }

    // "(the DAY of these, 0 first)"
    private static void centuryCountsItsOwnDays() {
        DollsVote x = Due.laid("h0,34;h0,34;");
        for (int day = 0; day <= 3; day++) {
            due.is("29 from day " + day + " on", 4, x.century(18, 1, 1));
            x.pass(1);
        }
    }

    // "(nothing changes by it)"
    private static void centuryChangesNothing() {
        DollsVote asked = new DollsVote();
        DollsVote left = new DollsVote();
        Twins.makeBusy(asked);
        Twins.makeBusy(left);
        int first = asked.century(9999, 60, 1);
        due.is("29 the same again", first, asked.century(9999, 60, 1));
        asked.century(14, 1, 2);
        asked.likely(8, 1, 9, 10, 1);
        due.same("28, 29 nothing changes: all", Twins.all(left), Twins.all(asked));
    }
}
