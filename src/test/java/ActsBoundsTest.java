/** The bounds that part 2 of the document and promises 9 to 15 name: of days, pins, sneezes, mice, wants, undone. */
public final class ActsBoundsTest {
    private static final Due due = new Due();
    private static final int BAD = DollsVote.BAD, NO = DollsVote.NO, NONE = DollsVote.NONE;

    public static void main(String[] args) {
        eachTakesAtOnce();
        lastHouseTakesNothing();
        plainTakesTheSame();
        slowComesOneNearer();
        turnedIsNineLess();
        carriedTakesTheNextRoom();
        mouseTakesNothing();
        passIs1To20();
        dayIs999AtMost();
        dayAt999StillHasActs();
        pinIsOfWhatThereIs();
        pinOfWhatStandsThere();
        sneezeGoesRound();
        sneezeIsOfAHouse();
        mouseWhereThereIsOne();
        chaseWhereThereIsNone();
        wantIs0To9OrNothing();
        undoneAreTheLastEight();
        undoneIsEachAct();
        undoneNothing();
        undoneDaysOfOneCall();
        undoneWithoutAnyChange();
        undoneIsNoRefusedCall();
        due.end();
    }

    private static void afterADay(String what, String text, String top) {
        DollsVote x = Due.laid(text);
        x.pass(1);
        due.same("9 " + what, top, Due.row(x, 0));
    }

    // "takes what stands in the ROOMS of the one within it, at once, as it stood ahead of that DAY"
    private static void eachTakesAtOnce() {
        DollsVote x = Due.laid("h0,11;h0,22;h0,33;h0,44;h0,55;h0,66;");
        String[] tops = {"22", "33", "44", "55", "66", "66"};
        for (int day = 1; day <= 6; day++) {
            x.pass(1);
            due.same("9 one house a day, day " + day, tops[day - 1], Due.row(x, 0));
        }
    }

    // "each HOUSE but the last one"
    private static void lastHouseTakesNothing() {
        for (int kind = 0; kind <= 3; kind++) {
            for (String mouse : new String[] {"", "m1;"}) {
                DollsVote x = Due.laid("h0,12;h" + kind + ",39;" + mouse);
                x.pass(20);
                due.same("9 the last one of kind " + kind, "39", Due.row(x, 1));
                due.same("9 the one above it", "39", Due.row(x, 0));
            }
        }
    }

    private static void plainTakesTheSame() {
        afterADay("plain, the least and the most", "h0,90;h0,09;", "09");
        afterADay("plain, five rooms", "h0,00000;h0,12345;", "12345");
    }

    // "a SLOW one comes in each 1 nearer to that"
    private static void slowComesOneNearer() {
        afterADay("slow from edge to edge", "h1,09;h0,90;", "18");
        afterADay("slow by just one", "h1,45;h0,54;", "54");
        afterADay("slow where it is there", "h1,09;h0,09;", "09");
        DollsVote x = Due.laid("h1,09;h0,90;");
        x.pass(8);
        due.same("9 slow, the eighth day", "81", Due.row(x, 0));
        x.pass(1);
        due.same("9 slow, the ninth day", "90", Due.row(x, 0));
        x.pass(1);
        due.same("9 slow, no further", "90", Due.row(x, 0));
    }

    // "a TURNED one has 9 less that"
    private static void turnedIsNineLess() {
        afterADay("turned, the edges", "h2,55;h0,09;", "90");
        afterADay("turned, the middle", "h2,55;h0,45;", "54");
        afterADay("turned by what is within, not by its own", "h2,0123;h0,1111;", "8888");
    }

    // "in each what stood there in the next ROOM (behind the last one the first)"
    private static void carriedTakesTheNextRoom() {
        afterADay("carried, two rooms", "h3,00;h0,12;", "21");
        afterADay("carried, three rooms", "h3,000;h0,123;", "231");
        afterADay("carried, four rooms", "h3,0000;h0,1234;", "2341");
        afterADay("carried, five rooms", "h3,00000;h0,12345;", "23451");
    }

    // "One in which a MOUSE is takes nothing."
    private static void mouseTakesNothing() {
        for (int kind = 0; kind <= 3; kind++) {
            afterADay("a mouse at the top of kind " + kind, "h" + kind + ",12;m0;h0,39;", "12");
            afterADay("a mouse within", "h0,12;h" + kind + ",39;m1;h0,77;", "39");
        }
        DollsVote x = Due.laid("h0,12;h0,34;m0;");
        due.is("9 the day is one more, though", 1, x.pass(1));
        x.chase(0);
        x.pass(1);
        due.same("9 chased, it takes", "34", Due.row(x, 0));
    }

    // 9: "n (1 to 20) DAYS go by: which it is. BAD"
    private static void passIs1To20() {
        DollsVote x = Due.laid("h1,00;h0,99;");
        due.is("9 the least", 1, x.pass(1));
        due.same("9 one day", "11", Due.row(x, 0));
        due.is("9 the most", 21, x.pass(20));
        due.same("9 twenty days", "99", Due.row(x, 0));
        Twins twins = Twins.busy(due);
        for (int bad : new int[] {0, 21, -1, Integer.MIN_VALUE, Integer.MAX_VALUE}) {
            twins.refused("9 pass(" + bad + ")", BAD, y -> y.pass(bad));
        }
    }

    private static void liveTo(DollsVote x, int day) {
        for (int turn = 0; turn < 50 && x.count(2) < day; turn++) {
            x.pass(Math.min(20, day - x.count(2)));
        }
    }

    // 9: "NO: it would be above 999"
    private static void dayIs999AtMost() {
        DollsVote x = new DollsVote();
        liveTo(x, 979);
        due.is("9 979 and 20", 999, x.pass(20));
        due.is("32 the last day", 999, x.count(2));
        for (int last : new int[] {980, 998, 999}) {
            Twins late = new Twins(due, y -> {
                Due.type(y, "h1,05;h0,95;");
                y.lay();
                liveTo(y, last);
                y.pin(0, 0, 3);
            });
            late.refused("9 one above 999 from " + last, NO, y -> y.pass(1000 - last));
            late.refused("9 20 from " + last, NO, y -> y.pass(20));
            late.refused("9 BAD ahead of NO from " + last, BAD, y -> y.pass(21));
            late.refused("9 no days from " + last, BAD, y -> y.pass(0));
        }
        x.undo();
        due.is("15 back from the last day", 979, x.count(2));
        due.is("9 and there again", 999, x.pass(20));
    }

    // 3: "(beyond the last that may go by, too)"
    private static void dayAt999StillHasActs() {
        DollsVote x = Due.laid("h1,00;h0,99;");
        liveTo(x, 999);
        due.is("10 a pin on the last day", 9, x.pin(0, 0, 0));
        due.is("16 beyond the last day", 9, x.behind(40, 0, 0));
        due.is("17 beyond the last day", 9, x.when(0, 9));
        due.is("18 beyond the last day", 9, x.rest());
        x.want(0, 5);
        due.is("19 beyond the last day", 1, x.met(5));
        due.is("20 beyond the last day", 5, x.pins(9, 0));
        due.is("28 beyond the last day", 1, x.likely(5, 0, 5, 3, 0));
        due.so("29 beyond the last day", x.century(0, 60, 1) >= 0);
        due.is("9 still none goes by", NO, x.pass(1));
        due.is("32 still the last day", 999, x.count(2));
    }

    // 10: "A PIN: what stood there. BAD", in "a ROOM of any HOUSE"
    private static void pinIsOfWhatThereIs() {
        DollsVote x = Due.laid("h0,12345;h0,12345;h0,12345;h0,12345;h0,12345;h0,12340;");
        due.is("10 the first room", 1, x.pin(0, 0, 0));
        due.is("10 the last room", 0, x.pin(5, 4, 9));
        due.same("10 at the top", "02345", Due.row(x, 0));
        due.same("10 at the bottom", "12349", Due.row(x, 5));
        Twins twins = Twins.busy(due);
        twins.refused("10 no house", BAD, y -> y.pin(3, 0, 0));
        twins.refused("10 no house below 0", BAD, y -> y.pin(-1, 0, 0));
        twins.refused("10 no room", BAD, y -> y.pin(0, 2, 0));
        twins.refused("10 no room below 0", BAD, y -> y.pin(0, -1, 0));
        twins.refused("10 nothing of that kind", BAD, y -> y.pin(0, 0, 10));
        twins.refused("10 nothing of that kind below 0", BAD, y -> y.pin(0, 0, -1));
        Twins mice = new Twins(due, y -> y.mouse(4));
        mice.refused("10 no house, though a room of the one ahead would do", BAD, y -> y.pin(0, 5, 0));
    }

    // 10: "NO: that stands there"
    private static void pinOfWhatStandsThere() {
        Twins twins = Twins.busy(due);
        for (int h = 0; h < 3; h++) {
            for (int r = 0; r < 2; r++) {
                int house = h;
                int room = r;
                twins.refused("10 what stands there", NO, y -> y.pin(house, room, y.room(house, room)));
            }
        }
        DollsVote x = Due.laid("h0,05;h0,34;");
        due.is("10 0 stands there", NO, x.pin(0, 0, 0));
        due.is("10 the next one does not", 0, x.pin(0, 0, 1));
        due.is("10 now it does", NO, x.pin(0, 0, 1));
        due.is("10 0 again", 1, x.pin(0, 0, 0));
        due.is("10 where a mouse is", 2, mouseAtTheTop().pin(0, 1, 3));
    }

    private static DollsVote mouseAtTheTop() {
        return Due.laid("h0,12;m0;h0,34;");
    }

    // "is in the next one (behind the last one in the first)"
    private static void sneezeGoesRound() {
        String[] rows = {"12", "123", "1234", "12345"};
        String[] sneezed = {"21", "312", "4123", "51234"};
        for (int i = 0; i < rows.length; i++) {
            DollsVote x = Due.laid("h0," + rows[i] + ";h0," + rows[i] + ";");
            due.is("11 in room 0 then", rows[i].charAt(rows[i].length() - 1) - '0', x.sneeze(1));
            due.same("11 each in the next one", sneezed[i], Due.row(x, 1));
            due.same("11 not in the other house", rows[i], Due.row(x, 0));
            for (int r = 1; r < rows[i].length(); r++) {
                x.sneeze(1);
            }
            due.same("11 once round", rows[i], Due.row(x, 1));
        }
        DollsVote x = mouseAtTheTop();
        due.is("11 where a mouse is", 2, x.sneeze(0));
    }

    private static void sneezeIsOfAHouse() {
        DollsVote x = Due.laid("h0,12;h0,34;h0,56;h0,78;h0,90;h0,13;");
        due.is("11 at the top", 2, x.sneeze(0));
        due.is("11 at the bottom", 3, x.sneeze(5));
        Twins twins = Twins.busy(due);
        twins.refused("11 no house", BAD, y -> y.sneeze(3));
        twins.refused("11 no house below 0", BAD, y -> y.sneeze(-1));
    }

    // 12: "BAD; NO: there is one"
    private static void mouseWhereThereIsOne() {
        DollsVote x = Due.laid("h0,12;h0,34;h0,56;h0,78;h0,90;h0,13;");
        for (int h = 0; h < 6; h++) {
            due.is("12 one more", h + 1, x.mouse(h));
            due.is("12 there is one", NO, x.mouse(h));
        }
        due.is("32 mice in all six", 6, x.count(3));
        Twins twins = Twins.busy(due);
        twins.refused("12 there is one", NO, y -> y.mouse(0));
        twins.refused("12 no house", BAD, y -> y.mouse(3));
        twins.refused("12 no house below 0", BAD, y -> y.mouse(-1));
        twins.refused("12 no house, 32 further than one with a mouse", BAD, y -> y.mouse(32));
        Twins told = new Twins(due, y -> {
            Due.type(y, "h0,12;h0,34;m1;m1;");
            y.lay();
        });
        told.refused("12 one that was told", NO, y -> y.mouse(1));
    }

    // 13: "BAD; NO: there is none"
    private static void chaseWhereThereIsNone() {
        DollsVote x = Due.laid("h0,12;h0,34;h0,56;h0,78;h0,90;h0,13;m0;m1;m2;m3;m4;m5;");
        for (int h = 0; h < 6; h++) {
            due.is("13 one less", 5 - h, x.chase(h));
            due.is("13 there is none", NO, x.chase(h));
        }
        Twins twins = Twins.busy(due);
        twins.refused("13 there is none", NO, y -> y.chase(1));
        twins.refused("13 no house", BAD, y -> y.chase(3));
        twins.refused("13 no house below 0", BAD, y -> y.chase(-1));
        twins.refused("13 no house, 32 further than one with a mouse", BAD, y -> y.chase(32));
        DollsVote twice = Due.laid("h0,12;h0,34;m1;m1;");
        due.is("13 told twice, chased once", 0, twice.chase(1));
    }

    // 14: "v (0 to 9) is WANTED .. or nothing (10): what was (NONE: nothing). BAD"
    private static void wantIs0To9OrNothing() {
        DollsVote x = Due.laid("h0,12345;h0,12345;");
        due.is("14 nothing was", NONE, x.want(4, 0));
        due.is("14 the least was", 0, x.want(4, 9));
        due.is("14 the most was", 9, x.want(4, 10));
        due.is("8 nothing is", NONE, x.wanted(4));
        due.is("14 nothing was, nothing is", NONE, x.want(4, 10));
        due.is("32 rooms with something wanted", 0, x.count(4));
        x.want(0, 1);
        due.is("32 it stands", 1, x.count(5));
        x.want(0, 10);
        due.is("32 nothing is wanted there", 0, x.count(5));
        Twins twins = Twins.busy(due);
        twins.refused("14 beyond nothing", BAD, y -> y.want(0, 11));
        twins.refused("14 below 0", BAD, y -> y.want(0, -1));
        twins.refused("14 as NONE is told", BAD, y -> y.want(0, NONE));
        twins.refused("14 no room", BAD, y -> y.want(2, 0));
        twins.refused("14 no room below 0", BAD, y -> y.want(-1, 0));
    }

    // "the last 8 can be", 15: "how many more can be. NO"
    private static void undoneAreTheLastEight() {
        for (int acts = 7; acts <= 20; acts++) {
            DollsVote x = Due.laid("h0,02;h0,34;");
            for (int v = 1; v <= acts; v++) {
                x.pin(0, 0, v % 10);
            }
            int can = Math.min(8, acts);
            due.is("32 of " + acts, can, x.count(7));
            for (int i = 1; i <= can; i++) {
                due.is("15 of " + acts, can - i, x.undo());
                due.is("15 as it stood ahead", (acts - i) % 10, x.room(0, 0));
            }
            due.is("15 one beyond", NO, x.undo());
            due.is("15 nothing changes by it", (acts - can) % 10, x.room(0, 0));
        }
        DollsVote x = Due.laid("h0,02;h0,34;");
        for (int v = 1; v <= 9; v++) {
            x.pin(0, 0, v);
        }
        x.undo();
        x.pin(0, 1, 7);
        due.is("32 undone and acted anew", 8, x.count(7));
        for (int i = 7; i >= 0; i--) {
            due.is("15 undone and acted anew", i, x.undo());
        }
        due.same("15 the first of nine stays", "12", Due.row(x, 0));
    }

    // "UNDONE is the latest of these"
    private static void undoneIsEachAct() {
        DollsVote x = Due.laid("h0,12;h0,34;m1;q0,9;");
        x.mouse(0);
        x.chase(1);
        x.want(0, 10);
        x.sneeze(1);
        x.pin(0, 1, 7);
        due.same("15 all five acts", "0117 0043 -4 -4 ", Due.standing(x));
        due.is("15 the pin", 4, x.undo());
        due.same("15 the pin", "0112 0043 -4 -4 ", Due.standing(x));
        due.is("15 the sneeze", 3, x.undo());
        due.same("15 the sneeze", "0112 0034 -4 -4 ", Due.standing(x));
        due.is("15 the want", 2, x.undo());
        due.same("15 the want", "0112 0034 9 -4 ", Due.standing(x));
        due.is("15 the chase", 1, x.undo());
        due.same("15 the chase", "0112 0134 9 -4 ", Due.standing(x));
        due.is("15 the mouse", 0, x.undo());
        due.same("15 the mouse", "0012 0134 9 -4 ", Due.standing(x));
    }

    private static void undoneNothing() {
        new Twins(due, y -> { }).refused("15 a new object", NO, DollsVote::undo);
        new Twins(due, y -> {
            Due.type(y, "h0,12;h0,34;");
            y.pass(1);
            y.lay();
            y.keep();
        }).refused("15 just laid", NO, DollsVote::undo);
        new Twins(due, y -> {
            y.keep();
            y.pass(1);
            y.back();
        }).refused("15 just back", NO, DollsVote::undo);
        new Twins(due, y -> {
            y.pass(1);
            y.undo();
        }).refused("15 all undone", NO, DollsVote::undo);
    }

    // "of DAYS (all of one call at once"
    private static void undoneDaysOfOneCall() {
        DollsVote x = Due.laid("h1,09;h0,90;");
        x.pass(3);
        x.pass(20);
        due.is("15 twenty days at once", 1, x.undo());
        due.is("15 the day", 3, x.count(2));
        due.same("15 the rooms", "36", Due.row(x, 0));
        due.is("15 three days at once", 0, x.undo());
        due.is("15 day 0", 0, x.count(2));
        due.same("15 the rooms", "09", Due.row(x, 0));
    }

    // "such by which nothing becomes another, too"
    private static void undoneWithoutAnyChange() {
        DollsVote x = Due.laid("h0,55;h0,55;q0,5;");
        x.sneeze(0);
        due.is("15 a sneeze by which nothing becomes another", 1, x.count(7));
        x.want(0, 5);
        due.is("15 what was wanted already", 2, x.count(7));
        x.want(1, 10);
        due.is("15 nothing, as ahead", 3, x.count(7));
        x.pass(1);
        due.is("15 a day on which nothing changes", 4, x.count(7));
        for (int i = 3; i >= 0; i--) {
            due.is("15 each on its own", i, x.undo());
        }
    }

    private static void undoneIsNoRefusedCall() {
        DollsVote x = new DollsVote();
        x.pass(21);
        x.pin(0, 0, 1);
        x.pin(9, 9, 9);
        x.sneeze(5);
        x.mouse(3);
        x.chase(0);
        x.want(0, 11);
        x.lay();
        due.is("32 none of these can be undone", 0, x.count(7));
        x.write('x');
        x.wipe();
        x.seen(0, 0, 0, 0);
        x.forget();
        x.keep();
        x.century(1, 1, 0);
        due.is("32 nor these", 0, x.count(7));
        due.is("15 nothing to undo", NO, x.undo());
    }
}
