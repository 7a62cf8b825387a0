/** The bounds that part 4 of the document and promises 23 to 27 name: of what was seen and what it tells. */
public final class SeenBoundsTest {
    private static final Due due = new Due();
    private static final int BAD = DollsVote.BAD, FULL = DollsVote.FULL;
    private static final String MOST = "h0,12345;h0,23456;h0,34567;h0,45678;h0,56789;h0,67890;";

    public static void main(String[] args) {
        seenIsBehind0To20();
        seenIsOfWhatThereIs();
        sixAreSeenAtMost();
        seenIsByHowAllStandsThen();
        seenStaysBehindActs();
        forgottenNothing();
        forgottenAll();
        kindsAreBitsOf0To3();
        kindsOfEachHouse();
        kindsInPlaceOfItsOwn();
        stoodIsBitsOf0To9();
        stoodIsOfTheLastHouse();
        stoodInPlaceOfWhatDoes();
        tellsIs0To20();
        tellsTheLowest();
        tellsByAllItsRooms();
        tellsAtTheFarEnd();
        due.end();
    }

    // "SEEN .. is that behind n (0 to 20) DAYS v stands in a ROOM of a HOUSE", 23: "how many. BAD"
    private static void seenIsBehind0To20() {
        DollsVote x = Due.laid("h1,05;h0,95;");
        due.is("23 now", 1, x.seen(0, 0, 0, 0));
        due.is("25 now it is so", 15, x.kinds(0));
        due.is("23 behind 20", 2, x.seen(20, 0, 0, 9));
        due.is("25 behind 20 it is so", 1 + 2, x.kinds(0));
        Twins twins = Twins.busy(due);
        for (int bad : new int[] {-1, 21, Integer.MIN_VALUE, Integer.MAX_VALUE}) {
            twins.refused("23 seen behind " + bad, BAD, y -> y.seen(bad, 0, 0, 0));
        }
    }

    private static void seenIsOfWhatThereIs() {
        DollsVote x = Due.laid(MOST);
        due.is("23 the last room of the last house", 1, x.seen(20, 5, 4, 0));
        due.is("26 it is so", 1, x.stood(4));
        due.is("23 the first room of the first house", 2, x.seen(0, 0, 0, 9));
        due.is("26 it is not so", 0, x.stood(4));
        Twins twins = Twins.busy(due);
        twins.refused("23 no house", BAD, y -> y.seen(0, 3, 0, 0));
        twins.refused("23 no house below 0", BAD, y -> y.seen(0, -1, 0, 0));
        twins.refused("23 no room", BAD, y -> y.seen(0, 0, 2, 0));
        twins.refused("23 no room below 0", BAD, y -> y.seen(0, 0, -1, 0));
        twins.refused("23 nothing of that kind", BAD, y -> y.seen(0, 0, 0, 10));
        twins.refused("23 nothing of that kind below 0", BAD, y -> y.seen(0, 0, 0, -1));
    }

    // "SEEN (6 at most)", 23: "FULL"
    private static void sixAreSeenAtMost() {
        DollsVote x = Due.laid("h0,12;h0,34;");
        for (int i = 1; i <= 5; i++) {
            due.is("23 number " + i, i, x.seen(1, 0, 0, 3));
        }
        due.is("25 five", 1, x.kinds(0));
        due.is("23 the sixth", 6, x.seen(1, 0, 1, 9));
        due.is("25 the sixth counts", 0, x.kinds(0));
        due.is("23 the seventh", FULL, x.seen(0, 0, 0, 1));
        due.is("32 it stays at six", 6, x.count(6));
        Twins full = new Twins(due, y -> {
            Due.type(y, "h0,12;h0,34;");
            y.lay();
            for (int i = 0; i < 6; i++) {
                y.seen(1, 0, i % 2, 3 + i % 2);
            }
            y.sneeze(0);
            y.keep();
        });
        full.refused("23 a seventh that is not so", FULL, y -> y.seen(0, 0, 0, 9));
        full.refused("23 BAD ahead of FULL", BAD, y -> y.seen(21, 0, 0, 9));
        full.refused("23 BAD ahead of FULL, thing", BAD, y -> y.seen(0, 0, 0, 10));
        due.is("24 six were", 6, x.forget());
        due.is("23 place again", 1, x.seen(0, 0, 0, 1));
    }

    // "(by how all stands when that is asked, not when it was SEEN)"
    private static void seenIsByHowAllStandsThen() {
        DollsVote x = Due.laid("h0,12;h0,34;h0,56;");
        x.seen(1, 0, 0, 5);
        due.is("25 not so from today on", 0, x.kinds(0));
        x.pass(1);
        due.is("25 so from tomorrow on", 1, x.kinds(0) & 1);
        x.pin(1, 0, 6);
        due.is("25 a pin ends it", 0, x.kinds(0) & 1);
        x.undo();
        due.is("25 undone, so again", 1, x.kinds(0) & 1);
    }

    private static void seenStaysBehindActs() {
        DollsVote x = new DollsVote();
        x.seen(0, 0, 0, 1);
        x.keep();
        x.pass(20);
        x.pin(0, 0, 9);
        x.sneeze(0);
        x.undo();
        x.back();
        x.wipe();
        due.is("32 it stays", 1, x.count(6));
    }

    // 24: "Nothing is SEEN: how many were"
    private static void forgottenNothing() {
        DollsVote x = new DollsVote();
        due.is("24 none were", 0, x.forget());
        due.is("24 none were again", 0, x.forget());
        DollsVote busy = new DollsVote();
        Twins.makeBusy(busy);
        busy.forget();
        DollsVote twice = new DollsVote();
        Twins.makeBusy(twice);
        twice.forget();
        twice.forget();
        due.same("24 nothing changes by it: all", Twins.all(busy), Twins.all(twice));
    }

    private static void forgottenAll() {
        DollsVote x = new DollsVote();
        for (int i = 0; i < 6; i++) {
            x.seen(0, 0, 0, 9);
        }
        due.is("25 it is not so", 0, x.kinds(0));
        due.is("24 six were", 6, x.forget());
        due.is("25 nothing is seen", 15, x.kinds(0));
        due.is("26 nothing is seen", 1023, x.stood(0));
    }

    // "KINDS of a HOUSE (bits of 0 to 3)"
    private static void kindsAreBitsOf0To3() {
        DollsVote x = Due.laid("h0,12;h0,34;");
        due.is("25 nothing seen: all", 15, x.kinds(0));
        int[] stands = {3, 2, 6, 4};
        for (int kind = 0; kind < 4; kind++) {
            x.seen(1, 0, 0, stands[kind]);
            due.is("25 just kind " + kind, 1 << kind, x.kinds(0));
            x.forget();
        }
        x.seen(1, 0, 0, 9);
        due.is("25 none of them", 0, x.kinds(0));
    }

    private static void kindsOfEachHouse() {
        DollsVote x = Due.laid(MOST);
        x.seen(5, 0, 0, 6);
        for (int h = 0; h < 5; h++) {
            due.is("25 house " + h, 1, x.kinds(h) & 1);
        }
        due.is("25 the last one is of any kind", 15, x.kinds(5));
        Twins twins = Twins.busy(due);
        twins.refused("25 no house", BAD, y -> y.kinds(3));
        twins.refused("25 no house below 0", BAD, y -> y.kinds(-1));
        twins.refused("25 no house by far", BAD, y -> y.kinds(Integer.MAX_VALUE));
    }

    // "in place of its own"
    private static void kindsInPlaceOfItsOwn() {
        DollsVote x = Due.laid("h2,12;h0,34;");
        x.seen(1, 0, 0, 3);
        due.is("25 not its own", 1, x.kinds(0));
        due.is("7 its own stays", 2, x.house(0, 0));
        due.is("16 and goes on", 6, x.behind(1, 0, 0));
        due.is("25 with a mouse any is alike: none", 0, withMouse().kinds(0));
    }

    private static DollsVote withMouse() {
        DollsVote x = Due.laid("h2,12;m0;h0,34;");
        x.seen(1, 0, 0, 3);
        return x;
    }

    // "what may stand there now (bits 0 to 9)"
    private static void stoodIsBitsOf0To9() {
        DollsVote x = Due.laid("h0,12;h0,34;");
        due.is("26 nothing seen: all", 1023, x.stood(0));
        x.seen(1, 0, 0, 0);
        due.is("26 just the least", 1, x.stood(0));
        x.forget();
        x.seen(1, 0, 0, 9);
        due.is("26 just the most", 512, x.stood(0));
        x.seen(1, 0, 0, 8);
        due.is("26 none can be both", 0, x.stood(0));
        x.forget();
        x.seen(0, 0, 0, 1);
        x.seen(1, 0, 0, 3);
        due.is("26 each thing is tried from now on", 8, x.stood(0));
    }

    // "STOOD for a ROOM of the last HOUSE"
    private static void stoodIsOfTheLastHouse() {
        DollsVote x = Due.laid(MOST);
        x.seen(5, 0, 4, 3);
        due.is("26 the last room", 8, x.stood(4));
        due.is("26 the first room can't do it", 0, x.stood(0));
        Twins twins = Twins.busy(due);
        twins.refused("26 no room", BAD, y -> y.stood(2));
        twins.refused("26 no room below 0", BAD, y -> y.stood(-1));
        twins.refused("26 no room by far", BAD, y -> y.stood(Integer.MIN_VALUE));
        DollsVote carried = Due.laid("h3,12;h0,34;");
        carried.seen(1, 0, 1, 7);
        due.is("26 behind the last room the first", 128, carried.stood(0));
        due.is("26 not the last", 0, carried.stood(1));
    }

    // "in place of what does"
    private static void stoodInPlaceOfWhatDoes() {
        DollsVote x = Due.laid("h0,12;h0,34;");
        x.seen(0, 1, 0, 5);
        due.is("26 what does not stand there", 32, x.stood(0));
        due.is("6 what does stays", 3, x.room(1, 0));
        x.forget();
        x.seen(0, 1, 1, 4);
        due.is("26 of another room what does", 1023, x.stood(0));
    }

    // "TELLS for n (0 to 20) and a HOUSE", 27: "which (what = 0), how many (1). BAD"
    private static void tellsIs0To20() {
        DollsVote x = Due.laid("h1,05;h0,95;");
        due.is("27 now at the top", 1, x.tells(0, 0, 1));
        due.is("27 now at the bottom", 10, x.tells(0, 1, 1));
        due.is("27 behind 1", 3, x.tells(1, 0, 1));
        due.is("27 behind 1: which", 1, x.tells(1, 0, 0));
        due.is("27 behind 8", 10, x.tells(8, 0, 1));
        due.is("27 behind 8: the first tells but 9", 1, x.tells(8, 0, 0));
        due.is("27 behind 9: both alike", 0, x.tells(9, 0, 0));
        due.is("27 behind 20", 10, x.tells(20, 0, 1));
        Twins twins = Twins.busy(due);
        for (int bad : new int[] {-1, 21, Integer.MIN_VALUE, Integer.MAX_VALUE}) {
            twins.refused("27 tells(" + bad + ", 0, 0)", BAD, y -> y.tells(bad, 0, 0));
        }
        twins.refused("27 no house", BAD, y -> y.tells(0, 3, 0));
        twins.refused("27 no house below 0", BAD, y -> y.tells(0, -1, 0));
        twins.refused("27 nothing to tell", BAD, y -> y.tells(0, 0, 2));
        twins.refused("27 nothing to tell below 0", BAD, y -> y.tells(0, 0, -1));
    }

    // "of several the lowest"
    private static void tellsTheLowest() {
        due.is("27 all tell nothing", 0, Due.laid("h0,12;m0;h0,34;").tells(20, 0, 0));
        due.is("27 all tell nothing: how many", 1, Due.laid("h0,12;m0;h0,34;").tells(20, 0, 1));
        due.is("27 all tell all", 0, Due.laid("h0,12345;h0,12345;").tells(1, 0, 0));
        due.is("27 all tell all: how many", 10, Due.laid("h0,12345;h0,12345;").tells(1, 0, 1));
    }

    // "(all its ROOMS together, as a row)"
    private static void tellsByAllItsRooms() {
        due.is("27 in whichever room it comes up", 10, Due.laid("h3,12345;h0,12345;").tells(1, 0, 1));
        due.is("27 the last comes up in the last but one", 10, Due.laid("h3,12;h0,34;m1;").tells(1, 0, 1));
        due.is("27 the last house itself, with what stands in its other rooms", 10,
            Due.laid("h0,99;h0,99;").tells(20, 1, 1));
    }

    private static void tellsAtTheFarEnd() {
        DollsVote carried = Due.laid("h3,00000;h1,00500;h0,11111;");
        due.is("27 carried from the room behind", 2, carried.tells(2, 0, 0));
        due.is("27 carried from the room behind: how many", 3, carried.tells(2, 0, 1));
        carried = Due.laid("h3,00000;h1,50000;h0,11111;");
        due.is("27 carried from the first to the last", 0, carried.tells(2, 0, 0));
        carried = Due.laid("h3,00000;h3,00000;h1,05000;h0,11111;");
        due.is("27 carried twice", 1, carried.tells(3, 0, 0));
        DollsVote x = Due.laid("h0,11111;h0,11111;h0,11111;h0,11111;h1,00009;h0,11111;");
        due.is("27 the first has 0 and 1", 0, x.tells(5, 0, 0));
        due.is("27 two", 2, x.tells(5, 0, 1));
        x = Due.laid("h0,11111;h0,11111;h0,11111;h0,11111;h1,00005;h0,11111;");
        due.is("27 the last has 4, 5 and 6", 4, x.tells(5, 0, 0));
        due.is("27 three", 3, x.tells(5, 0, 1));
        due.is("27 a day too soon", 1, x.tells(4, 0, 1));
        due.is("27 the lowest house of six", 10, x.tells(0, 5, 1));
    }
}
