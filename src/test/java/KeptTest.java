/** Promises 30 to 32: keep, back, count. */
public final class KeptTest {
    private static final Due due = new Due();

    public static void main(String[] args) {
        keepAndBack();
        whatIsNotKept();
        count();
        due.end();
    }

    private static void keepAndBack() {
        DollsVote x = new DollsVote();
        due.is("31 nothing kept", DollsVote.NO, x.back());
        x.pin(0, 0, 9);
        x.want(1, 1);
        String first = all(x);
        due.is("30 keep", 1, x.keep());
        due.is("30 what may be undone stays", 2, x.count(7));
        x.pass(4);
        x.mouse(2);
        x.chase(3);
        x.want(0, 10);
        String second = all(x);
        due.is("30 keep again", 2, x.keep());
        x.pass(1);
        due.is("30 a third", DollsVote.FULL, x.keep());
        due.is("30 two", 2, x.count(8));
        due.is("31 the last one first", 1, x.back());
        due.so("31 as kept last", second.equals(all(x)));
        due.is("31 nothing is undone then", 0, x.count(7));
        due.is("31 undo", DollsVote.NO, x.undo());
        x.sneeze(0);
        due.is("31 the first one", 0, x.back());
        due.so("31 as kept first", first.equals(all(x)));
        due.is("31 undo again", DollsVote.NO, x.undo());
        x.pass(1);
        due.is("31 none is left", DollsVote.NO, x.back());
        due.is("31 refused, what may be undone stays", 1, x.count(7));
        due.is("30 there is place again", 1, x.keep());
        x.pass(1);
        due.is("30 two again", 2, x.keep());
        due.is("31 back", 1, x.back());
        due.is("31 its day", 2, x.count(2));
    }

    private static void whatIsNotKept() {
        DollsVote x = new DollsVote();
        x.seen(0, 0, 0, 0);
        x.write('h');
        x.keep();
        x.seen(0, 0, 0, 1);
        x.write('i');
        x.back();
        due.is("31 what is seen stays", 2, x.count(6));
        due.is("31 the text stays", 2, x.count(9));
        x.keep();
        x.forget();
        x.wipe();
        x.back();
        due.is("31 what is forgotten stays so", 0, x.count(6));
        due.is("31 what is wiped stays so", 0, x.count(9));
    }

    private static void count() {
        DollsVote x = Due.laid("h0,123;h1,456;h0,789;m1;q0,1;q1,5;");
        x.want(2, 0);
        x.pass(2);
        x.pin(0, 0, 1);
        x.keep();
        x.seen(1, 1, 1, 1);
        int[] counts = {3, 3, 2, 1, 3, 2, 1, 3, 1, 34};
        for (int what = 0; what <= 9; what++) {
            due.is("32 count(" + what + ")", counts[what], x.count(what));
        }
        for (int bad : new int[] {-1, 10, Integer.MIN_VALUE, Integer.MAX_VALUE}) {
            due.is("32 count(" + bad + ")", DollsVote.BAD, x.count(bad));
        }
    }

    /** All that is kept. */
    private static String all(DollsVote x) {
        return x.count(2) + " " + Due.standing(x);
    }
}
