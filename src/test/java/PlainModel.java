import java.util.ArrayList;
import java.util.HashSet;
import java.util.List;
import java.util.Set;
import java.util.regex.Matcher;
import java.util.regex.Pattern;

/** The document once more, by trying everything out, with no thought of speed: for comparing. */
final class PlainModel {
    private static final int BAD = -1, NO = -2, FULL = -3, NONE = -4;

    /** All that is kept and undone. */
    private static final class World {
        List<Integer> kinds = new ArrayList<>();
        List<int[]> rows = new ArrayList<>();
        Set<Integer> mice = new HashSet<>();
        Integer[] wants = new Integer[5];
        int day;

        World copy() {
            World w = new World();
            w.kinds.addAll(kinds);
            for (int[] row : rows) {
                w.rows.add(row.clone());
            }
            w.mice.addAll(mice);
            w.wants = wants.clone();
            w.day = day;
            return w;
        }

        int width() {
            return rows.get(0).length;
        }

        int last() {
            return rows.size() - 1;
        }

        World next() {
            World w = copy();
            for (int h = 0; h < last(); h++) {
                for (int r = 0; r < width() && !mice.contains(h); r++) {
                    int same = rows.get(h + 1)[r];
                    int own = rows.get(h)[r];
                    int[] byKind = {same, own + Integer.signum(same - own), 9 - same, rows.get(h + 1)[(r + 1) % width()]};
                    w.rows.get(h)[r] = byKind[kinds.get(h)];
                }
            }
            w.day++;
            return w;
        }

        World after(int n) {
            World w = this;
            for (int i = 0; i < n; i++) {
                w = w.next();
            }
            return w;
        }

        World put(int h, int r, int v) {
            World w = copy();
            w.rows.get(h)[r] = v;
            return w;
        }

        World sneezed(int h) {
            World w = copy();
            for (int r = 0; r < width(); r++) {
                w.rows.get(h)[(r + 1) % width()] = rows.get(h)[r];
            }
            return w;
        }

        World turnedMouse(int h) {
            World w = copy();
            if (!w.mice.remove(h)) {
                w.mice.add(h);
            }
            return w;
        }

        int met() {
            int bits = 0;
            for (int r = 0; r < width(); r++) {
                if (wants[r] != null && wants[r] == rows.get(0)[r]) {
                    bits |= 1 << r;
                }
            }
            return bits;
        }

        int wantedBits() {
            int bits = 0;
            for (int r = 0; r < width(); r++) {
                bits |= wants[r] != null ? 1 << r : 0;
            }
            return bits;
        }

        boolean sameRooms(World other) {
            for (int h = 0; h < rows.size(); h++) {
                if (!java.util.Arrays.equals(rows.get(h), other.rows.get(h))) {
                    return false;
                }
            }
            return true;
        }
    }

    private String text = "";
    private World now;
    private final List<World> past = new ArrayList<>();
    private final List<World> kept = new ArrayList<>();
    private final List<int[]> seen = new ArrayList<>();

    PlainModel() {
        text = "h0,1234;h1,5555;h2,0918;h3,7260;h0,4321;m3;q0,4;q2,7;";
        now = read();
        text = "";
    }

    private int faultPlace;

    /** What the text tells, or null; the place of the fault stays behind. */
    private World read() {
        World w = new World();
        faultPlace = 0;
        Matcher item = Pattern.compile("h([0-3]),([0-9]{2,5});|m([0-9]);|q([0-9]),([0-9]);").matcher(text);
        while (faultPlace < text.length()) {
            item.region(faultPlace, text.length());
            if (!item.lookingAt()) {
                return null;
            }
            if (item.group(1) != null) {
                String row = item.group(2);
                if (w.rows.size() == 6 || !w.rows.isEmpty() && row.length() != w.width()) {
                    return null;
                }
                w.kinds.add(Integer.valueOf(item.group(1)));
                w.rows.add(row.chars().map(c -> c - '0').toArray());
            } else if (item.group(3) != null) {
                int h = Integer.parseInt(item.group(3));
                if (h >= w.rows.size()) {
                    return null;
                }
                w.mice.add(h);
            } else {
                int r = Integer.parseInt(item.group(4));
                if (w.rows.isEmpty() || r >= w.width()) {
                    return null;
                }
                w.wants[r] = Integer.valueOf(item.group(5));
            }
            faultPlace = item.end();
        }
        faultPlace = NONE;
        return w;
    }

    private boolean h(int h) {
        return h >= 0 && h < now.rows.size();
    }

    private boolean r(int r) {
        return r >= 0 && r < now.width();
    }

    private static boolean in(int n, int least, int most) {
        return least <= n && n <= most;
    }

    private void act(World next) {
        past.add(now);
        now = next;
        if (past.size() > 8) {
            past.remove(0);
        }
    }

    int ask(String call, int[] a) {
        switch (call) {
            case "write": return write(a[0]);
            case "wipe": return wipe();
            case "fault": read(); return faultPlace;
            case "lay": return lay();
            case "room": return h(a[0]) && r(a[1]) ? now.rows.get(a[0])[a[1]] : BAD;
            case "house": return house(a[0], a[1]);
            case "wanted": return r(a[0]) ? now.wants[a[0]] == null ? NONE : now.wants[a[0]] : BAD;
            case "pass": return pass(a[0]);
            case "pin": return pin(a[0], a[1], a[2]);
            case "sneeze": return sneeze(a[0]);
            case "mouse": return mouse(a[0], true);
            case "chase": return mouse(a[0], false);
            case "want": return want(a[0], a[1]);
            case "undo": return undo();
            case "behind": return in(a[0], 0, 40) && h(a[1]) && r(a[2]) ? now.after(a[0]).rows.get(a[1])[a[2]] : BAD;
            case "when": return when(a[0], a[1]);
            case "rest": return rest();
            case "met": return in(a[0], 0, 40) ? now.after(a[0]).met() : BAD;
            case "pins": return pins(a[0], a[1]);
            case "one": return one(a[0], a[1]);
            case "harm": return harm(a[0], a[1]);
            case "seen": return seen(a);
            case "forget": int were = seen.size(); seen.clear(); return were;
            case "kinds": return kinds(a[0]);
            case "stood": return stood(a[0]);
            case "tells": return tells(a[0], a[1], a[2]);
            case "likely": return likely(a);
            case "century": return century(a[0], a[1], a[2]);
            case "keep": return keep();
            case "back": return back();
            default: return count(a[0]);
        }
    }

    private int write(int letter) {
        if (!in(letter, 32, 126)) {
            return BAD;
        }
        if (text.length() == 200) {
            return FULL;
        }
        text += (char) letter;
        return text.length();
    }

    private int wipe() {
        int was = text.length();
        text = "";
        return was;
    }

    private int lay() {
        World w = read();
        if (w == null || w.rows.size() < 2) {
            return NO;
        }
        now = w;
        past.clear();
        kept.clear();
        seen.clear();
        return w.rows.size();
    }

    private int house(int h, int what) {
        if (!h(h) || !in(what, 0, 1)) {
            return BAD;
        }
        return what == 0 ? now.kinds.get(h) : now.mice.contains(h) ? 1 : 0;
    }

    private int pass(int n) {
        if (!in(n, 1, 20)) {
            return BAD;
        }
        if (now.day + n > 999) {
            return NO;
        }
        act(now.after(n));
        return now.day;
    }

    private int pin(int h, int r, int v) {
        if (!h(h) || !r(r) || !in(v, 0, 9)) {
            return BAD;
        }
        int was = now.rows.get(h)[r];
        if (was == v) {
            return NO;
        }
        act(now.put(h, r, v));
        return was;
    }

    private int sneeze(int h) {
        if (!h(h)) {
            return BAD;
        }
        act(now.sneezed(h));
        return now.rows.get(h)[0];
    }

    private int mouse(int h, boolean in) {
        if (!h(h)) {
            return BAD;
        }
        if (now.mice.contains(h) == in) {
            return NO;
        }
        act(now.turnedMouse(h));
        return now.mice.size();
    }

    private int want(int r, int v) {
        if (!r(r) || !in(v, 0, 10)) {
            return BAD;
        }
        Integer was = now.wants[r];
        World w = now.copy();
        w.wants[r] = v == 10 ? null : v;
        act(w);
        return was == null ? NONE : was;
    }

    private int undo() {
        if (past.isEmpty()) {
            return NO;
        }
        now = past.remove(past.size() - 1);
        return past.size();
    }

    private int when(int r, int v) {
        if (!r(r) || !in(v, 0, 9)) {
            return BAD;
        }
        for (int n = 0; n <= 40; n++) {
            if (now.after(n).rows.get(0)[r] == v) {
                return n;
            }
        }
        return NONE;
    }

    private int rest() {
        for (int n = 0; n <= 40; n++) {
            World w = now.after(n);
            if (w.sameRooms(w.next())) {
                return n;
            }
        }
        return NONE;
    }

    /** Every row that could stand at the bottom, by how many rooms differ, then by the row itself. */
    private int pins(int n, int r) {
        if (!in(n, 1, 40) || r != -1 && !r(r)) {
            return BAD;
        }
        int fewest = 99;
        int[] best = null;
        int rows = (int) Math.pow(10, now.width());
        for (int code = 0; code < rows; code++) {
            int[] row = new int[now.width()];
            int left = code;
            int moved = 0;
            for (int i = row.length - 1; i >= 0; i--) {
                row[i] = left % 10;
                left /= 10;
                moved += row[i] != now.rows.get(now.last())[i] ? 1 : 0;
            }
            if (moved < fewest) {
                World w = now.copy();
                w.rows.set(w.last(), row);
                if (w.after(n).met() == now.wantedBits()) {
                    fewest = moved;
                    best = row;
                }
            }
        }
        if (best == null) {
            return NONE;
        }
        return r == -1 ? fewest : best[r];
    }

    private int one(int n, int what) {
        if (!in(n, 0, 40) || !in(what, 0, 1)) {
            return BAD;
        }
        int most = -1;
        int which = -1;
        for (int h = 0; h < now.rows.size(); h++) {
            for (int r = 0; r < now.width(); r++) {
                for (int v = 0; v <= 9; v++) {
                    int met = Integer.bitCount(now.put(h, r, v).after(n).met());
                    if (v != now.rows.get(h)[r] && met > most) {
                        most = met;
                        which = 100 * h + 10 * r + v;
                    }
                }
            }
        }
        return what == 0 ? which : most;
    }

    private int harm(int n, int what) {
        if (!in(n, 0, 40) || !in(what, 0, 1)) {
            return BAD;
        }
        int least = 99;
        int which = NONE;
        for (int h = 0; h < now.rows.size(); h++) {
            if (!now.mice.contains(h)) {
                int met = Integer.bitCount(now.turnedMouse(h).after(n).met());
                if (met < least) {
                    least = met;
                    which = h;
                }
            }
        }
        return which == NONE ? NONE : what == 0 ? which : least;
    }

    private int seen(int[] a) {
        if (!in(a[0], 0, 20) || !h(a[1]) || !r(a[2]) || !in(a[3], 0, 9)) {
            return BAD;
        }
        if (seen.size() == 6) {
            return FULL;
        }
        seen.add(a.clone());
        return seen.size();
    }

    private boolean allSo(World w) {
        for (int[] s : seen) {
            if (w.after(s[0]).rows.get(s[1])[s[2]] != s[3]) {
                return false;
            }
        }
        return true;
    }

    private int kinds(int h) {
        if (!h(h)) {
            return BAD;
        }
        int bits = 0;
        for (int k = 0; k < 4; k++) {
            World w = now.copy();
            w.kinds.set(h, k);
            bits |= allSo(w) ? 1 << k : 0;
        }
        return bits;
    }

    private int stood(int r) {
        if (!r(r)) {
            return BAD;
        }
        int bits = 0;
        for (int v = 0; v < 10; v++) {
            bits |= allSo(now.put(now.last(), r, v)) ? 1 << v : 0;
        }
        return bits;
    }

    private int tells(int n, int h, int what) {
        if (!in(n, 0, 20) || !h(h) || !in(what, 0, 1)) {
            return BAD;
        }
        int most = 0;
        int which = -1;
        for (int r = 0; r < now.width(); r++) {
            Set<String> unlike = new HashSet<>();
            for (int v = 0; v < 10; v++) {
                unlike.add(java.util.Arrays.toString(now.put(now.last(), r, v).after(n).rows.get(h)));
            }
            if (unlike.size() > most) {
                most = unlike.size();
                which = r;
            }
        }
        return what == 0 ? which : most;
    }

    private int likely(int[] a) {
        if (!in(a[0], 0, 8) || !r(a[1]) || !in(a[2], 0, 9) || !in(a[3], 0, 10) || !in(a[4], 0, 1)) {
            return BAD;
        }
        long above = ways(now, a[0], a);
        long below = Math.round(Math.pow(10, a[0]));
        for (long d = 2; d <= 5; d += 3) {
            while (above % d == 0 && below % d == 0) {
                above /= d;
                below /= d;
            }
        }
        return (int) (a[4] == 0 ? above : below);
    }

    private static long ways(World w, int left, int[] a) {
        if (left == 0) {
            return w.rows.get(0)[a[1]] == a[2] ? 1 : 0;
        }
        return a[3] * ways(w.sneezed(w.last()).next(), left - 1, a) + (10 - a[3]) * ways(w.next(), left - 1, a);
    }

    private int century(int z, int n, int what) {
        if (!in(z, 0, 9999) || !in(n, 1, 60) || !in(what, 0, 2)) {
            return BAD;
        }
        World w = now;
        for (int d = 0; d < n; d++) {
            long x = (7919L * z + 6151L * d + 1) % 65521;
            int draw = (int) (x * x % 65521) >> 1;
            int h = draw % w.rows.size();
            int r = (draw >> 3) % w.width();
            int deed = (draw >> 6) % 6;
            w = deed == 0 ? w.put(h, r, (draw >> 9) % 10) : deed == 1 ? w.sneezed(h) : deed == 2 ? w.turnedMouse(h) : w;
            w = w.next();
        }
        return what == 0 ? Integer.bitCount(w.met()) : what == 1 ? w.rows.get(0)[0] : w.mice.size();
    }

    private int keep() {
        if (kept.size() == 2) {
            return FULL;
        }
        kept.add(now);
        return kept.size();
    }

    private int back() {
        if (kept.isEmpty()) {
            return NO;
        }
        now = kept.remove(kept.size() - 1);
        past.clear();
        return kept.size();
    }

    private int count(int what) {
        int[] all = {now.rows.size(), now.width(), now.day, now.mice.size(), Integer.bitCount(now.wantedBits()),
            Integer.bitCount(now.met()), seen.size(), past.size(), kept.size(), text.length()};
        return in(what, 0, 9) ? all[what] : BAD;
    }
}
