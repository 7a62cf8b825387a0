/** Promises 1 to 8: a new object, write, wipe, fault, lay, room, house, wanted. */
public final class NurseriesTest {
    private static final Due due = new Due();

    public static void main(String[] args) {
        newObject();
        write();
        wipe();
        faults();
        noFaults();
        lay();
        layRefused();
        room();
        house();
        wanted();
        due.end();
    }

    private static void newObject() {
        DollsVote x = new DollsVote();
        due.so("1 as told", Due.state(x).equals(
            "5 4 0 1 2 0 0 0 0 0 001234 105555 200918 317260 004321 4 -4 7 -4 "));
        due.is("1 text is empty", 0, x.wipe());
        due.is("1 empty text can't be laid", DollsVote.NO, x.lay());
        due.is("1 nothing undone", DollsVote.NO, x.undo());
        due.is("1 nothing kept", DollsVote.NO, x.back());
        due.is("1 nothing seen", 0, x.forget());
        x.pin(0, 0, 9);
        due.is("1 another object is another", 1, new DollsVote().room(0, 0));
    }

    private static void write() {
        DollsVote x = new DollsVote();
        for (int bad : new int[] {31, 127, 0, -1, 10, 200, Integer.MIN_VALUE, Integer.MAX_VALUE}) {
            due.is("2 write(" + bad + ")", DollsVote.BAD, x.write(bad));
        }
        due.is("2 bad ones don't come behind", 0, x.count(9));
        due.is("2 write(32)", 1, x.write(32));
        due.is("2 write(126)", 2, x.write(126));
        for (int i = 3; i <= 200; i++) {
            due.is("2 write number " + i, i, x.write('h'));
        }
        due.is("2 one more", DollsVote.FULL, x.write('h'));
        due.is("2 BAD ahead of FULL", DollsVote.BAD, x.write(31));
        due.is("2 still 200", 200, x.count(9));
    }

    private static void wipe() {
        DollsVote x = new DollsVote();
        due.is("3 wipe of nothing", 0, x.wipe());
        Due.type(x, "h0,12;");
        due.is("3 wipe", 6, x.wipe());
        due.is("3 wipe again", 0, x.wipe());
        due.is("3 nothing left", DollsVote.NONE, x.fault());
        due.is("3 write behind it", 1, x.write('q'));
        due.is("3 nothing else changes", 1, x.room(0, 0));
        for (int i = 0; i < 200; i++) {
            x.write(' ');
        }
        due.is("3 wipe of a full one", 200, x.wipe());
    }

    private static void fault(String text, int place) {
        DollsVote x = new DollsVote();
        Due.type(x, text);
        String ahead = Due.state(x);
        due.is("4 fault of " + text, place, x.fault());
        due.so("4 fault changes nothing: " + text, ahead.equals(Due.state(x)));
    }

    private static void faults() {
        for (String text : new String[] {
            "h", "h0", "h0,", "h0,1", "h0,12", "h0,12,", "h0.12;", "h0 12;", "H0,12;", "h4,12;", "h9,12;",
            "h,12;", "h00,12;", "h-1,12;", "h0,;", "h0,1;", "h0,123456;", "h0,1a;", "h0,a1;", "h0,1,2;",
            "h0,12:", "h0,12 ;", " h0,12;", ";", ",", "x", "m0;", "q0,0;", "0", "h0;12,", "h0,12345678901;"}) {
            fault(text, 0);
        }
        for (String item : new String[] {
            "m", "m0", "m0,", "m1;", "m9;", "m00;", "m;", "m0,0;", "ma;", "m 0;", "q", "q0", "q0,", "q0,0",
            "q0,0,", "q2,0;", "q9,0;", "q0;0;", "q,0;", "q0,;", "q0,a;", "q0,10;", "q00,0;", "q-1,0;", "q0,0 ;",
            "h0,123;", "h0,1;", "h4,12;", "h0,12", ";", " ", "M0;", "Q0,0;", "h0,12,;"}) {
            fault("h0,12;" + item, 6);
            fault("h0,12;" + item + "h0,12;", 6);
            fault("h0,12;" + item + "x", 6);
        }
        fault("h0,12345;h0,1234;", 9);
        fault("h0,12;h0,12;m2;h0,12;", 12);
        fault("h0,12;h0,12;q0,1;m1;x", 20);
        String six = "h0,12;h1,23;h2,34;h3,45;h0,56;h1,67;";
        fault(six + "h0,12;", 36);
        fault(six + "m6;", 36);
        fault(six + "m5;h0,12;", 39);
        fault("h0,12;\u007e", 6);
    }

    private static void noFaults() {
        for (String text : new String[] {
            "", "h0,12;", "h3,98765;", "h0,12;m0;m0;q0,0;q0,9;q1,5;", "h1,00;q1,1;h2,99;m0;m1;q0,3;",
            "h0,12;h1,23;h2,34;h3,45;h0,56;h1,67;m5;m0;q1,0;"}) {
            fault(text, DollsVote.NONE);
        }
    }

    private static void lay() {
        DollsVote x = new DollsVote();
        x.pass(3);
        x.keep();
        x.seen(0, 0, 0, 0);
        x.mouse(0);
        Due.type(x, "h3,12345;q4,1;m0;h1,67890;q4,2;h2,11111;m1;m0;q0,9;");
        due.is("5 lay", 3, x.lay());
        due.so("5 as laid", Due.state(x).equals(
            "3 5 0 2 2 0 0 0 0 51 3112345 1167890 2011111 9 -4 -4 -4 2 "));
        due.is("5 nothing undone", DollsVote.NO, x.undo());
        due.is("5 nothing kept", DollsVote.NO, x.back());
        due.is("5 nothing seen", 0, x.forget());
        due.is("5 room beyond", DollsVote.BAD, x.room(0, 5));
        due.is("5 house beyond", DollsVote.BAD, x.room(3, 0));
        x.pass(2);
        x.kinds(0);
        due.is("5 the text stays: lay again", 3, x.lay());
        due.is("5 day 0 again", 0, x.count(2));
        due.so("5 the same again", Due.row(x, 0).equals("12345"));
        due.is("5 two houses", 2, Due.laid("h0,12;h0,34;").count(0));
        due.is("5 six houses", 6, Due.laid("h0,12;h1,23;h2,34;h3,45;h0,56;h1,67;").count(0));
        due.is("5 a met want", 1, Due.laid("h0,12;h0,34;q0,1;").count(5));
        x.wipe();
        Due.type(x, "h0,12;h0,34;");
        due.is("5 fewer rooms than ahead", 2, x.lay());
        due.is("5 nothing wanted from ahead", 0, x.count(4));
        due.is("5 no mice from ahead", 0, x.count(3));
    }

    private static void layRefused() {
        for (String text : new String[] {"", "h0,12;", "h0,12;m0;q0,1;", "h0,12;h0,34;x", "h0,12;h0,34",
            "h0,12;h0,345;", "x", "h0,12;h1,23;h2,34;h3,45;h0,56;h1,67;h0,12;"}) {
            DollsVote x = new DollsVote();
            x.pass(3);
            x.keep();
            x.seen(0, 0, 0, 0);
            x.mouse(0);
            Due.type(x, text);
            String ahead = Due.state(x);
            due.is("5 lay of " + text, DollsVote.NO, x.lay());
            due.so("5 refused, nothing changes: " + text, ahead.equals(Due.state(x)));
        }
    }

    private static void room() {
        DollsVote x = new DollsVote();
        due.is("6 room(2, 1)", 9, x.room(2, 1));
        due.is("6 room(4, 3)", 1, x.room(4, 3));
        int[][] bad = {{-1, 0}, {5, 0}, {0, -1}, {0, 4}, {6, 5}, {Integer.MAX_VALUE, 0}, {0, Integer.MIN_VALUE},
            {Integer.MIN_VALUE, Integer.MAX_VALUE}, {1, -5}, {-1, 5}};
        for (int[] b : bad) {
            due.is("6 room(" + b[0] + ", " + b[1] + ")", DollsVote.BAD, x.room(b[0], b[1]));
        }
    }

    private static void house() {
        DollsVote x = new DollsVote();
        int[] kinds = {0, 1, 2, 3, 0};
        for (int h = 0; h < 5; h++) {
            due.is("7 kind of " + h, kinds[h], x.house(h, 0));
            due.is("7 mouse in " + h, h == 3 ? 1 : 0, x.house(h, 1));
        }
        int[][] bad = {{-1, 0}, {5, 0}, {0, -1}, {0, 2}, {5, 1}, {32, 1}, {Integer.MAX_VALUE, 1}};
        for (int[] b : bad) {
            due.is("7 house(" + b[0] + ", " + b[1] + ")", DollsVote.BAD, x.house(b[0], b[1]));
        }
    }

    private static void wanted() {
        DollsVote x = new DollsVote();
        due.is("8 wanted(0)", 4, x.wanted(0));
        due.is("8 wanted(1)", DollsVote.NONE, x.wanted(1));
        due.is("8 wanted(3)", DollsVote.NONE, x.wanted(3));
        due.is("8 wanted(-1)", DollsVote.BAD, x.wanted(-1));
        due.is("8 wanted(4)", DollsVote.BAD, x.wanted(4));
        due.is("8 the last one of a room", 0, Due.laid("h0,12;h0,34;q0,9;q0,0;").wanted(0));
    }
}
