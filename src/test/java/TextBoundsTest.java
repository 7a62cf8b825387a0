/** The bounds that part 1 of the document and promises 1 to 8 name: of the text, its items, and what is laid. */
public final class TextBoundsTest {
    private static final Due due = new Due();
    private static final int BAD = DollsVote.BAD, NO = DollsVote.NO, FULL = DollsVote.FULL, NONE = DollsVote.NONE;
    private static final String TWO = "h0,12;h0,34;";
    private static final String SIX = "h0,12;h1,23;h2,34;h3,45;h0,56;h1,67;";

    public static void main(String[] args) {
        letterIs32To126();
        textIs200AtMost();
        wholeTextOf200IsRead();
        faultAtTheLastPlace();
        emptyText();
        wipedTextIsEmpty();
        numbersAreOneFigure();
        kindIs0To3();
        rowIs2To5();
        rowIsAsLongAsTheFirst();
        thingsAre0To9();
        sixHousesAtMost();
        mouseInAHouseToldAhead();
        mouseToldOnceMore();
        wantedInARoomThereIs();
        wantedIs0To9();
        wantedNeedsAHouseAhead();
        lastWantedOfARoom();
        itemsEndBySemicolon();
        firstFaultOfSeveral();
        twoHousesAtLeast();
        layRefusedChangesNothing();
        laidAnew();
        housesAndRoomsThereAre();
        due.end();
    }

    private static int faultOf(String text) {
        DollsVote x = new DollsVote();
        Due.type(x, text);
        return x.fault();
    }

    private static void good(String what, String text) {
        due.is(what + ": " + text, NONE, faultOf(text));
    }

    private static void faulty(String what, String text, int place) {
        due.is(what + ": " + text, place, faultOf(text));
    }

    private static String times(int n, String item) {
        return item.repeat(n);
    }

    // 2: "A letter (32 to 126, as in ASCII) .. BAD"
    private static void letterIs32To126() {
        DollsVote x = new DollsVote();
        due.is("2 the least letter", 1, x.write(32));
        due.is("2 the most letter", 2, x.write(126));
        Twins twins = Twins.busy(due);
        for (int bad : new int[] {31, 127, -1, 'h' + 256, 'h' - 256, 'h' + 65536, Integer.MIN_VALUE, Integer.MAX_VALUE}) {
            twins.refused("2 write(" + bad + ")", BAD, y -> y.write(bad));
        }
    }

    // 1: "A TEXT is letters (200 at most)", 2: "FULL"
    private static void textIs200AtMost() {
        DollsVote x = new DollsVote();
        Due.type(x, times(198, "x"));
        due.is("2 the 199th letter", 199, x.write('x'));
        due.is("2 the 200th letter", 200, x.write('x'));
        due.is("2 the 201st letter", FULL, x.write('x'));
        due.is("2 it stays at 200", 200, x.count(9));
        due.is("2 once more", FULL, x.write('x'));
        due.is("3 how long it was", 200, x.wipe());
        due.is("2 place again", 1, x.write('x'));
        Twins full = new Twins(due, y -> {
            Due.type(y, TWO + times(62, "m0;") + "xx");
            y.pass(1);
            y.keep();
        });
        full.refused("2 a letter too many", FULL, y -> y.write(';'));
        full.refused("2 BAD ahead of FULL", BAD, y -> y.write(127));
        Twins readable = new Twins(due, y -> Due.type(y, TWO + times(61, "m1;") + "q0,9;"));
        readable.refused("2 a letter too many behind a good text", FULL, y -> y.write('x'));
    }

    private static void wholeTextOf200IsRead() {
        String text = TWO + times(61, "m1;") + "q1,9;";
        due.is("1 the test's text", 200, text.length());
        DollsVote x = new DollsVote();
        Due.type(x, text);
        due.is("4 a text of 200", NONE, x.fault());
        due.is("5 a text of 200", 2, x.lay());
        due.is("5 its last item counts", 9, x.wanted(1));
        due.is("5 its mice", 1, x.count(3));
    }

    // "FAULT: the place (from 0 on) of the first letter of the first ITEM that is not so"
    private static void faultAtTheLastPlace() {
        String text = TWO + times(59, "m1;") + "q0,9;q0,9;";
        due.is("4 the test's text", 199, text.length());
        faulty("4 at the last place", text + "q", 199);
        good("4 all but the last place", text);
        faulty("4 at the first place", "x", 0);
        faulty("4 a text that ends within its last item", TWO + times(61, "m1;") + "q0,99", 195);
        faulty("4 a text of 200 letters that are no items", times(200, "~"), 0);
    }

    // 1: "THE TEXT is empty"
    private static void emptyText() {
        DollsVote x = new DollsVote();
        due.is("1 how long", 0, x.count(9));
        due.is("4 of nothing", NONE, x.fault());
        due.is("3 of nothing", 0, x.wipe());
        new Twins(due, y -> y.pass(1)).refused("5 an empty text", NO, DollsVote::lay);
    }

    private static void wipedTextIsEmpty() {
        new Twins(due, y -> {
            Due.type(y, TWO);
            y.lay();
            y.pass(1);
            y.keep();
            y.wipe();
        }).refused("5 a text that was wiped", NO, DollsVote::lay);
        DollsVote x = Due.laid(TWO);
        String ahead = Due.standing(x);
        due.is("3 wipe", 12, x.wipe());
        due.same("3 what is laid stays", ahead, Due.standing(x));
        Due.type(x, "h0,12;");
        due.is("3 nothing of it is left behind a shorter one", NO, x.lay());
        due.is("3 nor a fault", NONE, x.fault());
    }

    // "numbers: one figure; a row: single figures, one next to the other"
    private static void numbersAreOneFigure() {
        faulty("4 kind of two figures", TWO + "h00,12;", 12);
        faulty("4 kind of none", TWO + "h,12;", 12);
        faulty("4 mouse of two figures", TWO + "m00;", 12);
        faulty("4 mouse of none", TWO + "m;", 12);
        faulty("4 room of two figures", TWO + "q00,0;", 12);
        faulty("4 room of none", TWO + "q,0;", 12);
        faulty("4 wanted of two figures", TWO + "q0,00;", 12);
        faulty("4 wanted of none", TWO + "q0,;", 12);
        faulty("4 a row with a gap", TWO + "h0,1,2;", 12);
        faulty("4 a row with a blank", TWO + "h0,1 2;", 12);
        faulty("4 a number below 0", TWO + "m-1;", 12);
    }

    // "KIND K (0 PLAIN, 1 SLOW, 2 TURNED, 3 CARRIED)"
    private static void kindIs0To3() {
        for (int kind = 0; kind <= 3; kind++) {
            good("4 kind " + kind, "h" + kind + ",12;");
            due.is("7 kind " + kind, kind, Due.laid("h" + kind + ",12;h0,12;").house(0, 0));
        }
        for (int kind = 4; kind <= 9; kind++) {
            faulty("4 kind beyond", "h" + kind + ",12;", 0);
        }
        faulty("4 the sign ahead of 0", "h/,12;", 0);
        faulty("4 the sign behind 9", "h:,12;", 0);
    }

    // "a row of 2 to 5"
    private static void rowIs2To5() {
        faulty("4 a row of none", "h0,;", 0);
        faulty("4 a row of 1", "h0,1;", 0);
        good("4 a row of 2", "h0,12;");
        good("4 a row of 3", "h0,123;");
        good("4 a row of 4", "h0,1234;");
        good("4 a row of 5", "h0,12345;");
        faulty("4 a row of 6", "h0,123456;", 0);
        faulty("4 a row of 10", "h0,1234567890;", 0);
        due.is("32 rooms of 2", 2, Due.laid("h0,12;h0,34;").count(1));
        due.is("32 rooms of 5", 5, Due.laid("h0,12345;h0,67890;").count(1));
    }

    // "as many as in the first one"
    private static void rowIsAsLongAsTheFirst() {
        for (int rooms = 2; rooms <= 5; rooms++) {
            String first = "h0," + times(rooms, "5") + ";";
            good("4 as many", first + first);
            faulty("4 one fewer", first + "h0," + times(rooms - 1, "5") + ";", first.length());
            faulty("4 one more", first + "h0," + times(rooms + 1, "5") + ";", first.length());
        }
        faulty("4 as in the first, not as in the one before", "h0,123;h0,123;h0,12;", 14);
    }

    // "each 0 to 9"
    private static void thingsAre0To9() {
        DollsVote x = Due.laid("h0,09;h0,90;");
        due.same("6 the least and the most", "09", Due.row(x, 0));
        faulty("4 the sign ahead of 0", TWO + "h0,1/;", 12);
        faulty("4 the sign behind 9", TWO + "h0,:1;", 12);
        faulty("4 a letter", TWO + "h0,a1;", 12);
    }

    // "6 at most, 0 the one at the top"
    private static void sixHousesAtMost() {
        good("4 six houses", SIX);
        faulty("4 a seventh", SIX + "h0,12;", 36);
        faulty("4 a seventh behind other items", SIX + "m0;q0,1;h0,12;", 44);
        DollsVote x = Due.laid(SIX);
        due.is("5 six houses", 6, x.count(0));
        due.same("6 the one at the top", "12", Due.row(x, 0));
        due.same("6 the last one", "67", Due.row(x, 5));
        due.is("6 beyond the last one", BAD, x.room(6, 0));
    }

    // "mH a MOUSE is in HOUSE H (told ahead"
    private static void mouseInAHouseToldAhead() {
        good("4 in the first", "h0,12;m0;");
        faulty("4 none told ahead", "m0;h0,12;", 0);
        faulty("4 one further than told", "h0,12;m1;h0,34;", 6);
        good("4 in the last told", TWO + "m1;");
        faulty("4 beyond the last told", TWO + "m2;", 12);
        good("4 in the sixth", SIX + "m5;");
        faulty("4 in a seventh", SIX + "m6;", 36);
        due.is("7 in the sixth", 1, Due.laid(SIX + "m5;").house(5, 1));
    }

    // "no matter if told once more"
    private static void mouseToldOnceMore() {
        DollsVote x = Due.laid("h0,12;m0;h0,34;m0;m1;m0;");
        due.is("32 told three times", 2, x.count(3));
        due.is("7 it is there", 1, x.house(0, 1));
        due.is("32 in all six", 6, Due.laid(SIX + "m0;m1;m2;m3;m4;m5;m5;").count(3));
    }

    // "qR,V in ROOM R at the top V"
    private static void wantedInARoomThereIs() {
        for (int rooms = 2; rooms <= 5; rooms++) {
            String house = "h0," + times(rooms, "5") + ";";
            good("4 in the last room", house + "q" + (rooms - 1) + ",1;");
            faulty("4 beyond the last room", house + "q" + rooms + ",1;", house.length());
            due.is("8 in the last room", 1, Due.laid(house + house + "q" + (rooms - 1) + ",1;").wanted(rooms - 1));
        }
        faulty("4 the sign ahead of 0", TWO + "q/,1;", 12);
    }

    // "V (0 to 9) is WANTED"
    private static void wantedIs0To9() {
        DollsVote x = Due.laid(TWO + "q0,0;q1,9;");
        due.is("8 the least", 0, x.wanted(0));
        due.is("8 the most", 9, x.wanted(1));
        faulty("4 ten is none", TWO + "q0,10;", 12);
        faulty("4 the sign behind 9", TWO + "q0,:;", 12);
        faulty("4 the sign ahead of 0", TWO + "q0,/;", 12);
    }

    // "(there has to be a HOUSE ahead"
    private static void wantedNeedsAHouseAhead() {
        faulty("4 none ahead", "q0,1;h0,12;", 0);
        good("4 one ahead", "h0,12;q0,1;h0,12;");
        DollsVote x = Due.laid(TWO + "m0;q0,1;");
        x.wipe();
        Due.type(x, "q0,1;h0,12;h0,34;");
        due.is("4 one in a text that was wiped is none ahead", 0, x.fault());
        x.wipe();
        Due.type(x, "h0,12;h0,34;m2;");
        due.is("4 nor for a mouse", 12, x.fault());
    }

    // "the last one of a ROOM)"
    private static void lastWantedOfARoom() {
        DollsVote x = Due.laid("h0,12;q0,1;q1,2;h0,34;q0,9;q0,3;");
        due.is("8 the last of three", 3, x.wanted(0));
        due.is("8 of the other room", 2, x.wanted(1));
        due.is("32 rooms, not items", 2, x.count(4));
    }

    // "parted by , and a ; behind it"
    private static void itemsEndBySemicolon() {
        for (String item : new String[] {"h0,12;", "m0;", "q0,1;"}) {
            for (int length = 1; length < item.length(); length++) {
                faulty("4 an item that ends early", TWO + item.substring(0, length), 12);
            }
            good("4 the whole item", TWO + item);
            faulty("4 a letter too many", TWO + item + ";", 12 + item.length());
            faulty("4 a comma at its end", TWO + item.replace(';', ','), 12);
            faulty("4 a capital", TWO + item.toUpperCase(), 12);
            faulty("4 a blank ahead", TWO + " " + item, 12);
        }
        faulty("4 no comma", TWO + "q0.1;", 12);
        faulty("4 no comma", TWO + "h0;12;", 12);
    }

    private static void firstFaultOfSeveral() {
        faulty("4 of two", TWO + "m9;q9,9;", 12);
        faulty("4 of two, the other first", TWO + "q9,9;m9;", 12);
        faulty("4 good ones between", TWO + "m0;m2;m1;m3;", 15);
    }

    // "of two HOUSES at least (NO else"
    private static void twoHousesAtLeast() {
        due.is("5 two", 2, Due.laid(TWO).count(0));
        Twins one = new Twins(due, y -> {
            y.pass(1);
            y.keep();
            y.seen(0, 0, 0, 0);
            Due.type(y, "h0,12;m0;q0,1;");
        });
        one.refused("5 one", NO, DollsVote::lay);
        one.refused("4 one has no fault, though", NONE, DollsVote::fault);
    }

    private static void layRefusedChangesNothing() {
        for (String behind : new String[] {"x", "h0,1;", "m3;", "q2,0;", "h0,12", ";"}) {
            new Twins(due, y -> {
                Twins.makeBusy(y);
                Due.type(y, behind);
            }).refused("5 a fault: " + behind, NO, DollsVote::lay);
        }
    }

    // 5: "DAY 0, nothing SEEN, UNDONE, KEPT (THE TEXT stays)"
    private static void laidAnew() {
        DollsVote x = new DollsVote();
        Twins.makeBusy(x);
        x.kinds(0);
        x.behind(5, 0, 0);
        due.is("5 how many", 3, x.lay());
        int[] counts = {3, 2, 0, 1, 2, 0, 0, 0, 0, 31};
        for (int what = 0; what <= 9; what++) {
            due.is("5 count(" + what + ")", counts[what], x.count(what));
        }
        due.is("5 nothing can be undone", NO, x.undo());
        due.is("5 nothing is kept", NO, x.back());
        due.same("5 as the text tells", "1052 2107 3094 4 7 ", Due.standing(x));
        due.is("5 once more", 3, x.lay());
        x.wipe();
        Due.type(x, "h0,12345;h0,67890;");
        due.is("5 fewer houses of more rooms", 2, x.lay());
        due.same("5 nothing is left of mice and wants", "0012345 0067890 -4 -4 -4 -4 -4 ", Due.standing(x));
    }

    // 6, 7, 8: "BAD: a number is none that is told (HOUSES, ROOMS: such as there are)"
    private static void housesAndRoomsThereAre() {
        DollsVote least = Due.laid("h1,12;h2,34;");
        due.is("6 the last room of two", 4, least.room(1, 1));
        due.is("7 the last house of two", 2, least.house(1, 0));
        DollsVote most = Due.laid("h0,12345;h0,12345;h0,12345;h0,12345;h0,12345;h3,12349;m5;q4,0;");
        due.is("6 the last room of five", 9, most.room(5, 4));
        due.is("7 the last house of six", 3, most.house(5, 0));
        due.is("7 its mouse", 1, most.house(5, 1));
        due.is("8 the last room of five", 0, most.wanted(4));
        due.is("8 nothing is wanted", NONE, most.wanted(3));
        Twins twins = Twins.busy(due);
        twins.refused("6 no house", BAD, y -> y.room(3, 0));
        twins.refused("6 no house below 0", BAD, y -> y.room(-1, 0));
        twins.refused("6 no room", BAD, y -> y.room(0, 2));
        twins.refused("6 no room below 0", BAD, y -> y.room(0, -1));
        twins.refused("7 no house", BAD, y -> y.house(3, 0));
        twins.refused("7 no house below 0", BAD, y -> y.house(-1, 1));
        twins.refused("7 nothing to tell", BAD, y -> y.house(0, 2));
        twins.refused("7 nothing to tell below 0", BAD, y -> y.house(0, -1));
        twins.refused("8 no room", BAD, y -> y.wanted(2));
        twins.refused("8 no room below 0", BAD, y -> y.wanted(-1));
    }
}
