/** The bounds that part 3 of the document and promises 16 to 22 name: of what comes up from now on. */
public final class ComesUpBoundsTest {
    private static final Due due = new Due();
    private static final int BAD = DollsVote.BAD, NONE = DollsVote.NONE;
    private static final String MOST = "h0,12345;h0,23456;h0,34567;h0,45678;h0,56789;h0,67890;";

    public static void main(String[] args) {
        behindIs0To40();
        behindIsOfWhatThereIs();
        whenIsFirst();
        whenIsNone();
        whenIsOfWhatThereIs();
        restIsFirst();
        restIsOfAnyRoom();
        metIs0To40();
        metIsOfWantedRooms();
        pinsIs1To40();
        pinsAreTheFewest();
        pinsAreTheLeast();
        pinsThroughCarriedOnes();
        pinsAreNone();
        oneIs0To40();
        oneIsTheFirst();
        oneChangesWhatStandsThere();
        oneThroughCarriedOnes();
        oneAtTheFarEnd();
        harmIs0To40();
        harmIsTheLowest();
        harmIsNone();
        due.end();
    }

    // "BEHIND n (0 to 40) DAYS what stands in a ROOM"
    private static void behindIs0To40() {
        DollsVote x = Due.laid("h1,05;h0,95;");
        due.is("16 now", 0, x.behind(0, 0, 0));
        due.is("16 behind 1", 1, x.behind(1, 0, 0));
        due.is("16 behind 8", 8, x.behind(8, 0, 0));
        due.is("16 behind 9", 9, x.behind(9, 0, 0));
        due.is("16 behind 40", 9, x.behind(40, 0, 0));
        Twins twins = Twins.busy(due);
        for (int bad : new int[] {-1, 41, Integer.MIN_VALUE, Integer.MAX_VALUE}) {
            twins.refused("16 behind(" + bad + ")", BAD, y -> y.behind(bad, 0, 0));
        }
    }

    private static void behindIsOfWhatThereIs() {
        DollsVote x = Due.laid(MOST);
        due.is("16 the last room at the bottom", 0, x.behind(40, 5, 4));
        due.is("16 the last room at the top", 0, x.behind(5, 0, 4));
        due.is("16 a day too soon", 9, x.behind(4, 0, 4));
        Twins twins = Twins.busy(due);
        twins.refused("16 no house", BAD, y -> y.behind(0, 3, 0));
        twins.refused("16 no house below 0", BAD, y -> y.behind(0, -1, 0));
        twins.refused("16 no room", BAD, y -> y.behind(0, 0, 2));
        twins.refused("16 no room below 0", BAD, y -> y.behind(0, 0, -1));
    }

    // "behind how many DAYS (0 to 40) v stands there first"
    private static void whenIsFirst() {
        DollsVote x = Due.laid("h0,12;h0,34;h0,12;h0,34;");
        due.is("17 now", 0, x.when(0, 1));
        due.is("17 the first of two days", 1, x.when(0, 3));
        due.is("17 the last room", 1, x.when(1, 4));
        // No text takes longer: each HOUSE but one that comes nearer just passes on what is on its way already.
        x = Due.laid("h1,00;h0,00;h0,00;h0,00;h0,00;h0,90;");
        due.is("17 as late as it can be", 13, x.when(0, 9));
        due.is("17 the day ahead", 12, x.when(0, 8));
        due.is("17 the least", 0, x.when(0, 0));
    }

    // "none"
    private static void whenIsNone() {
        DollsVote x = Due.laid("h0,12;h0,34;h0,12;");
        due.is("17 never", NONE, x.when(0, 0));
        due.is("17 only in the other room", NONE, x.when(0, 2));
        due.is("17 held by a mouse", NONE, Due.laid("h0,12;m0;h0,34;").when(0, 3));
        due.is("17 only within", NONE, Due.laid("h1,00;h0,55;").when(0, 6));
        Twins.busy(due).refused("17 never", NONE, y -> y.when(0, 0));
    }

    private static void whenIsOfWhatThereIs() {
        Twins twins = Twins.busy(due);
        twins.refused("17 no room", BAD, y -> y.when(2, 0));
        twins.refused("17 no room below 0", BAD, y -> y.when(-1, 0));
        twins.refused("17 nothing of that kind", BAD, y -> y.when(0, 10));
        twins.refused("17 nothing of that kind below 0", BAD, y -> y.when(0, -1));
        due.is("17 the most there is", 4, Due.laid(MOST).when(4, 9));
    }

    // "behind how many DAYS (0 to 40) the next DAY changes nothing in any ROOM first"
    private static void restIsFirst() {
        due.is("18 now", 0, Due.laid("h0,12;h0,12;").rest());
        due.is("18 tomorrow", 1, Due.laid("h0,12;h0,34;").rest());
        due.is("18 all held by mice", 0, Due.laid("h0,12;h0,34;h0,56;m0;m1;").rest());
        due.is("18 as late as it can be", 13, Due.laid("h1,00;h0,00;h0,00;h0,00;h0,00;h0,90;").rest());
        due.is("18 turned, at rest", 0, Due.laid("h2,09;h0,90;").rest());
        due.is("18 carried, at rest", 0, Due.laid("h3,12;h0,21;").rest());
    }

    private static void restIsOfAnyRoom() {
        due.is("18 just the last room", 1, Due.laid("h0,12345;h0,12346;").rest());
        due.is("18 just the first room", 1, Due.laid("h0,12345;h0,02345;").rest());
        due.is("18 just the last but one house", 5, Due.laid("h0,11;h0,11;h0,11;h0,11;h0,11;h0,12;").rest());
    }

    // "MET behind n (0 to 40) DAYS: ROOMS at the top (bits)"
    private static void metIs0To40() {
        DollsVote x = Due.laid("h1,05;h0,95;q0,0;q1,5;");
        due.is("19 now", 3, x.met(0));
        due.is("19 behind 1", 2, x.met(1));
        x.want(0, 9);
        due.is("19 a day too soon", 2, x.met(8));
        due.is("19 that day", 3, x.met(9));
        due.is("19 behind 40", 3, x.met(40));
        Twins twins = Twins.busy(due);
        for (int bad : new int[] {-1, 41, Integer.MIN_VALUE, Integer.MAX_VALUE}) {
            twins.refused("19 met(" + bad + ")", BAD, y -> y.met(bad));
        }
    }

    private static void metIsOfWantedRooms() {
        due.is("19 nothing wanted", 0, Due.laid("h0,12;h0,34;").met(0));
        due.is("19 all five", 31, Due.laid("h0,12345;h0,12345;q0,1;q1,2;q2,3;q3,4;q4,5;").met(40));
        due.is("19 the last one", 16, Due.laid("h0,12345;h0,12345;q0,9;q4,5;").met(0));
        due.is("19 the least thing", 1, Due.laid("h0,09;h0,34;q0,0;").met(0));
        due.is("19 the most thing", 2, Due.laid("h0,09;h0,34;q1,9;").met(0));
    }

    // "PINS for n (1 to 40) DAYS", 20: "how many (r = -1), what then stands in a ROOM of the last HOUSE"
    private static void pinsIs1To40() {
        DollsVote x = Due.laid("h1,05;h0,15;q0,9;");
        due.is("20 behind 1", NONE, x.pins(1, -1));
        due.is("20 a day too soon", NONE, x.pins(8, -1));
        due.is("20 in time", 1, x.pins(9, -1));
        due.is("20 behind 40", 1, x.pins(40, -1));
        due.is("20 the first room", 9, x.pins(40, 0));
        due.is("20 the last room", 5, x.pins(40, 1));
        due.is("20 behind 1 in time", 1, Due.laid("h0,12;h0,34;q0,9;").pins(1, -1));
        Twins twins = Twins.busy(due);
        for (int bad : new int[] {0, 41, -1, Integer.MIN_VALUE, Integer.MAX_VALUE}) {
            twins.refused("20 pins(" + bad + ", -1)", BAD, y -> y.pins(bad, -1));
        }
        for (int bad : new int[] {-2, 2, Integer.MIN_VALUE, Integer.MAX_VALUE}) {
            twins.refused("20 pins(1, " + bad + ")", BAD, y -> y.pins(1, bad));
        }
    }

    // "the fewest ROOMS"
    private static void pinsAreTheFewest() {
        DollsVote x = Due.laid("h0,12345;h0,12345;");
        due.is("20 nothing wanted", 0, x.pins(1, -1));
        for (int r = 0; r < 5; r++) {
            due.is("20 it stays", r + 1, x.pins(1, r));
            x.want(r, r + 1);
        }
        due.is("20 all stands there already", 0, x.pins(1, -1));
        for (int r = 0; r < 5; r++) {
            x.want(r, 9);
            due.is("20 one more", r + 1, x.pins(1, -1));
            due.is("20 in the last room", r == 4 ? 9 : 5, x.pins(1, 4));
        }
        due.is("20 from any thing to 0", 0, Due.laid("h0,12;h0,34;q0,0;").pins(1, 0));
    }

    // "in each of these the least one"
    private static void pinsAreTheLeast() {
        due.is("20 up: the least of several", 1, Due.laid("h1,00;h0,00;q0,1;").pins(1, 0));
        due.is("20 down: the least of several", 0, Due.laid("h1,90;h0,90;q0,8;").pins(1, 0));
        due.is("20 what would do is left, though not the least", 7, Due.laid("h1,00;h0,70;q0,1;").pins(1, 0));
        due.is("20 behind a carried one", 1, Due.laid("h3,00;h1,00;h0,00;q1,1;").pins(2, 0));
        due.is("20 behind a turned one", 0, Due.laid("h2,00;h1,90;h0,90;q0,1;").pins(2, 0));
    }

    // "(behind the last one the first)", for what is put at the bottom
    private static void pinsThroughCarriedOnes() {
        DollsVote x = Due.laid("h3,00000;h0,00000;h3,00000;h0,12345;q0,7;q3,8;q4,9;");
        int[] then = {8, 9, 7, 4, 5};
        for (int r = 0; r < 5; r++) {
            due.is("20 carried twice, room " + r, then[r], x.pins(3, r));
        }
        due.is("20 carried twice", 3, x.pins(3, -1));
        due.is("20 carried twice, too soon", NONE, x.pins(2, -1));
    }

    // "none", and BAD ahead of it
    private static void pinsAreNone() {
        Twins late = new Twins(due, y -> {
            Due.type(y, "h0,12;h0,34;h0,56;q0,9;");
            y.lay();
            y.pass(1);
            y.undo();
            y.keep();
        });
        late.refused("20 too soon", NONE, y -> y.pins(1, -1));
        late.refused("20 too soon for what stands there", NONE, y -> y.pins(1, 1));
        late.refused("20 BAD ahead of NONE", BAD, y -> y.pins(1, 2));
        late.refused("20 BAD ahead of NONE, days", BAD, y -> y.pins(0, 0));
        due.is("20 of five one can't be", NONE, Due.laid("h1,00009;h0,00009;q0,1;q4,0;").pins(8, 0));
        due.is("20 a day later it can", 2, Due.laid("h1,00009;h0,00009;q0,1;q4,0;").pins(9, -1));
        due.is("20 a mouse at the top", NONE, Due.laid("h0,12;m0;h0,34;q0,9;").pins(40, -1));
        due.is("20 a mouse at the top, it stands there", 0, Due.laid("h0,12;m0;h0,34;q0,1;").pins(40, -1));
    }

    // "ONE for n (0 to 40)", 21: "which (what = 0), how many (1). BAD"
    private static void oneIs0To40() {
        DollsVote x = Due.laid("h1,05;h0,15;q0,9;");
        due.is("21 now: at the top itself", 9, x.one(0, 0));
        due.is("21 now: how many", 1, x.one(0, 1));
        due.is("21 tomorrow: nothing helps at the bottom", 0, Due.laid("h1,05;h0,15;q0,9;").one(1, 1));
        due.is("21 behind 9", 109, x.one(9, 0));
        due.is("21 behind 40", 109, x.one(40, 0));
        due.is("21 behind 40: how many", 1, x.one(40, 1));
        Twins twins = Twins.busy(due);
        for (int bad : new int[] {-1, 41, Integer.MIN_VALUE, Integer.MAX_VALUE}) {
            twins.refused("21 one(" + bad + ", 0)", BAD, y -> y.one(bad, 0));
        }
        for (int bad : new int[] {-1, 2}) {
            twins.refused("21 one(0, " + bad + ")", BAD, y -> y.one(0, bad));
        }
    }

    // "of several the first (by the HOUSE, the ROOM, then what stands there)"
    private static void oneIsTheFirst() {
        due.is("21 by the house", 9, Due.laid("h0,12;m0;h0,12;q0,9;").one(0, 0));
        due.is("21 by the room", 8, Due.laid("h0,12;h0,12;q1,9;q0,8;").one(0, 0));
        due.is("21 by what stands there", 2, Due.laid("h1,30;h0,00;q0,1;").one(1, 0));
        due.is("21 of two that lead there the least", 0, Due.laid("h1,40;h1,10;h0,00;q0,1;").one(1, 0));
        due.is("21 more are met by a later one", 107, Due.laid("h0,12;h0,34;q0,7;q1,4;").one(1, 0));
    }

    // "that changes what stands there"
    private static void oneChangesWhatStandsThere() {
        due.is("21 all met: not by what stands there", 101, Due.laid("h0,09;h0,09;q0,0;q1,9;").one(0, 0));
        due.is("21 all met: by the least that does not", 100, Due.laid("h0,09;h0,59;q0,0;q1,9;").one(0, 0));
        due.is("21 nothing wanted, 0 stands there", 1, Due.laid("h0,09;h0,09;").one(40, 0));
        due.is("21 nothing wanted, another stands there", 0, Due.laid("h0,19;h0,09;").one(40, 0));
        due.is("21 nothing wanted: how many", 0, Due.laid("h0,19;h0,09;").one(40, 1));
    }

    private static void oneThroughCarriedOnes() {
        DollsVote x = Due.laid("h3,00000;h0,00000;h3,00000;h0,12345;q3,8;");
        int[] which = {38, 148, 248, 308};
        for (int n = 0; n <= 3; n++) {
            due.is("21 carried, behind " + n, which[n], x.one(n, 0));
            due.is("21 carried, behind " + n + ", how many", 1, x.one(n, 1));
        }
    }

    // "100 times the HOUSE, 10 times the ROOM, and that"
    private static void oneAtTheFarEnd() {
        DollsVote x = Due.laid(MOST + "q4,9;");
        due.is("21 the last house, room and thing", 549, x.one(5, 0));
        due.is("21 a day ahead it stands there: one that does no harm", 0, x.one(4, 0));
        due.is("21 how many", 1, x.one(5, 1));
        DollsVote all = Due.laid("h0,12345;h0,12345;q0,1;q1,2;q2,3;q3,4;q4,9;");
        due.is("21 all five", 5, all.one(1, 1));
        due.is("21 by the last room", 149, all.one(1, 0));
    }

    // "HARM for n (0 to 40)", 22: "which (what = 0), how many (1). NONE; BAD"
    private static void harmIs0To40() {
        DollsVote x = Due.laid("h0,12;h0,34;h0,56;q0,5;q1,6;");
        due.is("22 now: none is met anyway", 0, x.harm(0, 1));
        due.is("22 now: which", 0, x.harm(0, 0));
        due.is("22 behind 40: which", 0, x.harm(40, 0));
        due.is("22 behind 40: how many", 0, x.harm(40, 1));
        due.is("22 all five stay", 5, Due.laid("h0,12345;h0,12345;q0,1;q1,2;q2,3;q3,4;q4,5;").harm(0, 1));
        due.is("22 all five stay: which", 0, Due.laid("h0,12345;h0,12345;q0,1;q1,2;q2,3;q3,4;q4,5;").harm(0, 0));
        due.is("22 now it can do no harm", 2, Due.laid("h0,12;h0,34;q0,1;q1,2;").harm(0, 1));
        Twins twins = Twins.busy(due);
        for (int bad : new int[] {-1, 41, Integer.MIN_VALUE, Integer.MAX_VALUE}) {
            twins.refused("22 harm(" + bad + ", 0)", BAD, y -> y.harm(bad, 0));
        }
        for (int bad : new int[] {-1, 2}) {
            twins.refused("22 harm(0, " + bad + ")", BAD, y -> y.harm(0, bad));
        }
    }

    // "of several the lowest", "the HOUSE in which there is no MOUSE"
    private static void harmIsTheLowest() {
        due.is("22 of all", 0, Due.laid("h0,12;h0,12;h0,12;q0,1;").harm(40, 0));
        due.is("22 not where a mouse is", 1, Due.laid("h0,12;m0;h0,12;h0,12;q0,1;").harm(40, 0));
        due.is("22 a lower one does more", 1, Due.laid("h0,12;h0,34;h0,16;q0,1;q1,6;").harm(2, 0));
        due.is("22 a lower one does more, how many", 0, Due.laid("h0,12;h0,34;h0,16;q0,1;q1,6;").harm(2, 1));
        String six = "h0,12;m0;h0,12;m1;h0,12;m2;h0,12;m3;h0,12;m4;h0,12;";
        due.is("22 only the last of six is left", 5, Due.laid(six).harm(40, 0));
        due.is("22 only the last of six is left, how many", 0, Due.laid(six).harm(40, 1));
    }

    // "none", and BAD ahead of it
    private static void harmIsNone() {
        Twins mice = new Twins(due, y -> {
            Due.type(y, "h0,12;h0,34;m0;m1;q0,1;");
            y.lay();
            y.pass(1);
            y.keep();
        });
        mice.refused("22 a mouse in each", NONE, y -> y.harm(40, 0));
        mice.refused("22 a mouse in each, how many", NONE, y -> y.harm(0, 1));
        mice.refused("22 BAD ahead of NONE", BAD, y -> y.harm(41, 0));
        mice.refused("22 BAD ahead of NONE, what", BAD, y -> y.harm(0, 2));
        due.is("22 a mouse in each but one", 1, Due.laid("h0,12;h0,34;m0;q0,1;").harm(9, 0));
    }
}
