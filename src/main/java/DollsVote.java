import java.util.Arrays;

/**
 * Houses one within the other, where what is done at the bottom comes up a house a day.
 * The numbered promises that each public method keeps are told in the project's document.
 */
public final class DollsVote {
    public static final int BAD = -1, NO = -2, FULL = -3, NONE = -4;

    private static final String FIRST_TEXT =
        "h0,1234;h1,5555;h2,0918;h3,7260;h0,4321;m3;q0,4;q2,7;";

    private static final int LETTERS_MOST = 200;
    private static final int HOUSES_MOST = 6;
    private static final int HOUSES_LEAST = 2;
    private static final int ROOMS_MOST = 5;
    private static final int ROOMS_LEAST = 2;
    private static final int THINGS = 10;
    private static final int NOTHING = 10;

    private static final int SLOW = 1;
    private static final int TURNED = 2;
    private static final int CARRIED = 3;
    private static final int KINDS = 4;

    private static final int LAST_DAY = 999;
    private static final int PASS_MOST = 20;
    private static final int AHEAD_MOST = 40;
    private static final int SEEN_AHEAD_MOST = 20;
    private static final int LIKELY_MOST = 8;
    private static final int CENTURY_MOST = 60;
    private static final int CENTURIES_LAST = 9999;
    private static final int TENTHS = 10;

    private static final int UNDONE_MOST = 8;
    private static final int KEPT_MOST = 2;
    private static final int SEEN_MOST = 6;

    private final Letters text = new Letters();
    private final Nursery now = new Nursery();
    private final Nursery trial = new Nursery();
    private final Pile past = new Pile(UNDONE_MOST);
    private final Pile kept = new Pile(KEPT_MOST);
    private final Sightings sightings = new Sightings();
    private final Outlook outlook = new Outlook();
    private final Chances chances = new Chances();

    public DollsVote() {
        for (int i = 0; i < FIRST_TEXT.length(); i++) {
            text.append(FIRST_TEXT.charAt(i));
        }
        text.readInto(now);
        text.clear();
    }

    // ---- nurseries

    public int write(int letter) {
        if (!within(letter, 32, 126)) {
            return BAD;
        }
        return text.append(letter) ? text.length() : FULL;
    }

    public int wipe() {
        int length = text.length();
        text.clear();
        return length;
    }

    public int fault() {
        return text.readInto(trial);
    }

    public int lay() {
        if (text.readInto(trial) != NONE || trial.houses() < HOUSES_LEAST) {
            return NO;
        }
        now.become(trial);
        past.clear();
        kept.clear();
        sightings.clear();
        return now.houses();
    }

    public int room(int h, int r) {
        return now.hasHouse(h) && now.hasRoom(r) ? now.thing(h, r) : BAD;
    }

    public int house(int h, int what) {
        if (!now.hasHouse(h) || !within(what, 0, 1)) {
            return BAD;
        }
        if (what == 0) {
            return now.kind(h);
        }
        return now.hasMouse(h) ? 1 : 0;
    }

    public int wanted(int r) {
        return now.hasRoom(r) ? orNone(now.wish(r)) : BAD;
    }

    // ---- acts

    public int pass(int n) {
        if (!within(n, 1, PASS_MOST)) {
            return BAD;
        }
        if (now.day() + n > LAST_DAY) {
            return NO;
        }
        past.put(now);
        now.live(n);
        now.addDays(n);
        return now.day();
    }

    public int pin(int h, int r, int v) {
        if (!now.hasHouse(h) || !now.hasRoom(r) || !isThing(v)) {
            return BAD;
        }
        int stood = now.thing(h, r);
        if (stood == v) {
            return NO;
        }
        past.put(now);
        now.place(h, r, v);
        return stood;
    }

    public int sneeze(int h) {
        if (!now.hasHouse(h)) {
            return BAD;
        }
        past.put(now);
        now.shift(h);
        return now.thing(h, 0);
    }

    public int mouse(int h) {
        return setMouse(h, true);
    }

    public int chase(int h) {
        return setMouse(h, false);
    }

    public int want(int r, int v) {
        if (!now.hasRoom(r) || !within(v, 0, NOTHING)) {
            return BAD;
        }
        past.put(now);
        int was = now.wish(r);
        now.setWish(r, v);
        return orNone(was);
    }

    public int undo() {
        return past.takeInto(now) ? past.size() : NO;
    }

    // ---- what comes up

    public int behind(int n, int h, int r) {
        if (!within(n, 0, AHEAD_MOST) || !now.hasHouse(h) || !now.hasRoom(r)) {
            return BAD;
        }
        return outlook.thingBehind(now, n, h, r);
    }

    public int when(int r, int v) {
        return now.hasRoom(r) && isThing(v) ? outlook.firstDayOf(now, r, v) : BAD;
    }

    public int rest() {
        return outlook.firstQuietDay(now);
    }

    public int met(int n) {
        return within(n, 0, AHEAD_MOST) ? outlook.metBehind(now, n) : BAD;
    }

    public int pins(int n, int r) {
        if (!within(n, 1, AHEAD_MOST) || r != -1 && !now.hasRoom(r)) {
            return BAD;
        }
        return outlook.fewestPins(now, n, r);
    }

    public int one(int n, int what) {
        if (!within(n, 0, AHEAD_MOST) || !within(what, 0, 1)) {
            return BAD;
        }
        return outlook.bestPin(now, n, what == 0);
    }

    public int harm(int n, int what) {
        if (!within(n, 0, AHEAD_MOST) || !within(what, 0, 1)) {
            return BAD;
        }
        return outlook.worstMouse(now, n, what == 0);
    }

    // ---- what was seen

    public int seen(int n, int h, int r, int v) {
        if (!within(n, 0, SEEN_AHEAD_MOST) || !now.hasHouse(h) || !now.hasRoom(r) || !isThing(v)) {
            return BAD;
        }
        return sightings.add(n, h, r, v) ? sightings.size() : FULL;
    }

    public int forget() {
        int size = sightings.size();
        sightings.clear();
        return size;
    }

    public int kinds(int h) {
        if (!now.hasHouse(h)) {
            return BAD;
        }
        int bits = 0;
        for (int k = 0; k < KINDS; k++) {
            trial.become(now);
            trial.setKind(h, k);
            if (sightings.comeTrueIn(trial)) {
                bits |= 1 << k;
            }
        }
        return bits;
    }

    public int stood(int r) {
        if (!now.hasRoom(r)) {
            return BAD;
        }
        int bits = 0;
        for (int v = 0; v < THINGS; v++) {
            trial.become(now);
            trial.place(now.bottom(), r, v);
            if (sightings.comeTrueIn(trial)) {
                bits |= 1 << v;
            }
        }
        return bits;
    }

    public int tells(int n, int h, int what) {
        if (!within(n, 0, SEEN_AHEAD_MOST) || !now.hasHouse(h) || !within(what, 0, 1)) {
            return BAD;
        }
        return outlook.mostTelling(now, n, h, what == 0);
    }

    // ---- chances, centuries

    public int likely(int n, int r, int v, int x, int part) {
        if (!within(n, 0, LIKELY_MOST) || !now.hasRoom(r) || !isThing(v)
            || !within(x, 0, TENTHS) || !within(part, 0, 1)) {
            return BAD;
        }
        int above = chances.waysOf(now, n, r, v, x);
        int below = power(TENTHS, Chances.tellingDays(now, n));
        int shared = commonDivisor(above, below);
        int whole = part == 0 ? above : below;
        return shared > 0 ? whole / shared : whole;
    }

    public int century(int z, int n, int what) {
        if (!within(z, 0, CENTURIES_LAST) || !within(n, 1, CENTURY_MOST) || !within(what, 0, 2)) {
            return BAD;
        }
        trial.become(now);
        Chances.liveCentury(trial, z, n);
        if (what == 0) {
            return Integer.bitCount(trial.metRooms());
        }
        return what == 1 ? trial.thing(0, 0) : trial.mice();
    }

    // ---- kept

    public int keep() {
        if (kept.isFull()) {
            return FULL;
        }
        kept.put(now);
        return kept.size();
    }

    public int back() {
        if (!kept.takeInto(now)) {
            return NO;
        }
        past.clear();
        return kept.size();
    }

    public int count(int what) {
        switch (what) {
            case 0: return now.houses();
            case 1: return now.rooms();
            case 2: return now.day();
            case 3: return now.mice();
            case 4: return now.wishes();
            case 5: return Integer.bitCount(now.metRooms());
            case 6: return sightings.size();
            case 7: return past.size();
            case 8: return kept.size();
            case 9: return text.length();
            default: return BAD;
        }
    }

    private int setMouse(int h, boolean there) {
        if (!now.hasHouse(h)) {
            return BAD;
        }
        if (now.hasMouse(h) == there) {
            return NO;
        }
        past.put(now);
        now.toggleMouse(h);
        return now.mice();
    }

    private static int orNone(int wish) {
        return wish == NOTHING ? NONE : wish;
    }

    private static boolean isThing(int v) {
        return within(v, 0, THINGS - 1);
    }

    private static boolean within(int n, int least, int most) {
        return n >= least && n <= most;
    }

    private static int power(int base, int times) {
        int product = 1;
        for (int i = 0; i < times; i++) {
            product *= base;
        }
        return product;
    }

    private static int commonDivisor(int a, int b) {
        int big = b;
        int small = a;
        // Each turn takes the remainder of a division, so 64 turns are more than two ints can need.
        for (int i = 0; i < 64 && small != 0; i++) {
            int left = big % small;
            big = small;
            small = left;
        }
        return big;
    }

    /** The houses with all that stands, lives and is wanted in them on one day. */
    private static final class Nursery {
        private final int[] kinds = new int[HOUSES_MOST];
        private final int[] things = new int[HOUSES_MOST * ROOMS_MOST];
        private final int[] wishes = new int[ROOMS_MOST];
        private int houses;
        private int rooms;
        private int mouseBits;
        private int day;

        void clear() {
            houses = 0;
            rooms = 0;
            mouseBits = 0;
            day = 0;
            Arrays.fill(wishes, NOTHING);
        }

        void become(Nursery other) {
            houses = other.houses;
            rooms = other.rooms;
            mouseBits = other.mouseBits;
            day = other.day;
            System.arraycopy(other.kinds, 0, kinds, 0, HOUSES_MOST);
            System.arraycopy(other.things, 0, things, 0, HOUSES_MOST * ROOMS_MOST);
            System.arraycopy(other.wishes, 0, wishes, 0, ROOMS_MOST);
        }

        /** Whether another house of so many rooms may stand within the last one. */
        boolean fits(int width) {
            return houses < HOUSES_MOST && within(width, ROOMS_LEAST, ROOMS_MOST)
                && (houses == 0 || width == rooms);
        }

        void addHouse(int kind, int width) {
            if (fits(width)) {
                kinds[houses] = kind;
                rooms = width;
                houses++;
            }
        }

        int houses() {
            return houses;
        }

        int rooms() {
            return rooms;
        }

        int bottom() {
            return houses - 1;
        }

        boolean hasHouse(int h) {
            return h >= 0 && h < houses;
        }

        boolean hasRoom(int r) {
            return r >= 0 && r < rooms;
        }

        int thing(int h, int r) {
            int at = h * ROOMS_MOST + r;
            return at >= 0 && at < things.length ? things[at] : NONE;
        }

        void place(int h, int r, int v) {
            int at = h * ROOMS_MOST + r;
            if (at >= 0 && at < things.length) {
                things[at] = v;
            }
        }

        void placeAll(int h, int v) {
            for (int r = 0; r < rooms; r++) {
                place(h, r, v);
            }
        }

        int kind(int h) {
            return h >= 0 && h < kinds.length ? kinds[h] : NONE;
        }

        void setKind(int h, int kind) {
            if (hasHouse(h)) {
                kinds[h] = kind;
            }
        }

        boolean hasMouse(int h) {
            return (mouseBits >> h & 1) == 1;
        }

        void toggleMouse(int h) {
            mouseBits ^= 1 << h;
        }

        int mice() {
            return Integer.bitCount(mouseBits);
        }

        int wish(int r) {
            return hasRoom(r) ? wishes[r] : NOTHING;
        }

        void setWish(int r, int v) {
            if (hasRoom(r)) {
                wishes[r] = v;
            }
        }

        int wishes() {
            int number = 0;
            for (int r = 0; r < rooms; r++) {
                if (wish(r) != NOTHING) {
                    number++;
                }
            }
            return number;
        }

        /** The rooms at the top, as bits, in which what is wanted stands. */
        int metRooms() {
            int bits = 0;
            for (int r = 0; r < rooms; r++) {
                if (wish(r) == thing(0, r)) {
                    bits |= 1 << r;
                }
            }
            return bits;
        }

        int day() {
            return day;
        }

        void addDays(int n) {
            day += n;
        }

        /** A sneeze: each thing goes on to the next room. */
        void shift(int h) {
            int last = thing(h, rooms - 1);
            for (int r = rooms - 1; r > 0; r--) {
                place(h, r, thing(h, r - 1));
            }
            place(h, 0, last);
        }

        /** What a day does to the rooms; whether anything became another. */
        boolean comeUp() {
            boolean changed = false;
            // From the top down, so that each house takes what stood ahead of the day.
            for (int h = 0; h + 1 < houses; h++) {
                if (!hasMouse(h) && takeFromWithin(h)) {
                    changed = true;
                }
            }
            return changed;
        }

        /** What n days do to the rooms; the day's number is left to who counts it. */
        void live(int n) {
            // A day that changes nothing is followed by such days alone.
            boolean changing = true;
            for (int d = 0; d < n && changing; d++) {
                changing = comeUp();
            }
        }

        private boolean takeFromWithin(int h) {
            boolean changed = false;
            for (int r = 0; r < rooms; r++) {
                int next = nextThing(h, r);
                if (next != thing(h, r)) {
                    place(h, r, next);
                    changed = true;
                }
            }
            return changed;
        }

        private int nextThing(int h, int r) {
            int kind = kind(h);
            int inside = thing(h + 1, kind == CARRIED ? roomAfter(r) : r);
            if (kind == TURNED) {
                return THINGS - 1 - inside;
            }
            return kind == SLOW ? nearer(thing(h, r), inside) : inside;
        }

        private static int nearer(int own, int goal) {
            if (own == goal) {
                return own;
            }
            return own < goal ? own + 1 : own - 1;
        }

        private int roomAfter(int r) {
            return r + 1 < rooms ? r + 1 : 0;
        }

        /** The one room of the house above that goes by room r of the house below. */
        int roomAbove(int below, int r, int above) {
            int room = r;
            for (int h = below - 1; h >= above; h--) {
                if (kind(h) == CARRIED) {
                    room = room > 0 ? room - 1 : rooms - 1;
                }
            }
            return room;
        }
    }

    /** Nurseries laid one upon the other, the latest on top; beyond its measure the oldest is lost. */
    private static final class Pile {
        private final Nursery[] copies;
        private int size;

        Pile(int most) {
            copies = new Nursery[Math.max(most, 1)];
            for (int i = 0; i < copies.length; i++) {
                copies[i] = new Nursery();
            }
        }

        void clear() {
            size = 0;
        }

        int size() {
            return size;
        }

        boolean isFull() {
            return size >= copies.length;
        }

        void put(Nursery nursery) {
            if (isFull()) {
                dropOldest();
            }
            copies[size].become(nursery);
            size++;
        }

        boolean takeInto(Nursery nursery) {
            if (size < 1) {
                return false;
            }
            size--;
            nursery.become(copies[size]);
            return true;
        }

        private void dropOldest() {
            Nursery oldest = copies[0];
            for (int i = 1; i < copies.length; i++) {
                copies[i - 1] = copies[i];
            }
            // Its rows are used again, so that no act makes an object.
            copies[copies.length - 1] = oldest;
            size = copies.length - 1;
        }
    }

    /** The text, and the reading of its items. */
    private static final class Letters {
        private final int[] letters = new int[LETTERS_MOST];
        private int length;

        int length() {
            return length;
        }

        void clear() {
            length = 0;
        }

        boolean append(int letter) {
            if (length >= LETTERS_MOST) {
                return false;
            }
            letters[length] = letter;
            length++;
            return true;
        }

        /** Builds what the items tell: the place of the first that is not so, or NONE. */
        int readInto(Nursery built) {
            built.clear();
            int place = 0;
            for (int items = 0; items < LETTERS_MOST && place < length; items++) {
                int end = itemEnd(place, built);
                if (end <= place) {
                    return place;
                }
                place = end;
            }
            return NONE;
        }

        /** The place behind the item that begins here, once it is built; NONE if it is not so. */
        private int itemEnd(int place, Nursery built) {
            switch (letterAt(place)) {
                case 'h': return houseEnd(place, built);
                case 'm': return mouseEnd(place, built);
                case 'q': return wishEnd(place, built);
                default: return NONE;
            }
        }

        private int houseEnd(int place, Nursery built) {
            int kind = figureAt(place + 1);
            int row = place + 3;
            int width = figuresFrom(row);
            if (!within(kind, 0, KINDS - 1) || letterAt(place + 2) != ','
                || letterAt(row + width) != ';' || !built.fits(width)) {
                return NONE;
            }
            built.addHouse(kind, width);
            for (int r = 0; r < width; r++) {
                built.place(built.bottom(), r, figureAt(row + r));
            }
            return row + width + 1;
        }

        private int mouseEnd(int place, Nursery built) {
            int house = figureAt(place + 1);
            if (!built.hasHouse(house) || letterAt(place + 2) != ';') {
                return NONE;
            }
            if (!built.hasMouse(house)) {
                built.toggleMouse(house);
            }
            return place + 3;
        }

        private int wishEnd(int place, Nursery built) {
            int room = figureAt(place + 1);
            int thing = figureAt(place + 3);
            if (!built.hasRoom(room) || letterAt(place + 2) != ','
                || !isThing(thing) || letterAt(place + 4) != ';') {
                return NONE;
            }
            built.setWish(room, thing);
            return place + 5;
        }

        /** How many figures stand here one next to the other, as far as a row can go. */
        private int figuresFrom(int place) {
            int figures = 0;
            while (figures < ROOMS_MOST && figureAt(place + figures) != NONE) {
                figures++;
            }
            return figures;
        }

        private int figureAt(int place) {
            int letter = letterAt(place);
            return within(letter, '0', '9') ? letter - '0' : NONE;
        }

        private int letterAt(int place) {
            return place >= 0 && place < length ? letters[place] : NONE;
        }
    }

    /**
     * What comes up from now on. A room goes by its own past and by one room of the house within,
     * a room at the top therefore by one room of each house and no other by that room: so one
     * trial that puts a thing in all rooms of a house tells what each of them would do alone.
     */
    private static final class Outlook {
        private final Nursery trial = new Nursery();
        private final int[] metBy = new int[THINGS];
        private final int[] valuesBy = new int[ROOMS_MOST];

        int thingBehind(Nursery now, int n, int h, int r) {
            trial.become(now);
            trial.live(n);
            return trial.thing(h, r);
        }

        int metBehind(Nursery now, int n) {
            trial.become(now);
            trial.live(n);
            return trial.metRooms();
        }

        int firstDayOf(Nursery now, int r, int v) {
            trial.become(now);
            for (int n = 0; n <= AHEAD_MOST; n++) {
                if (trial.thing(0, r) == v) {
                    return n;
                }
                trial.comeUp();
            }
            return NONE;
        }

        int firstQuietDay(Nursery now) {
            trial.become(now);
            for (int n = 0; n <= AHEAD_MOST; n++) {
                if (!trial.comeUp()) {
                    return n;
                }
            }
            return NONE;
        }

        /** How many rooms at the bottom need another thing (r below 0), or what then stands in room r. */
        int fewestPins(Nursery now, int n, int r) {
            int bottom = now.bottom();
            int met = metBehind(now, n);
            tryThings(now, n, bottom);
            int moved = 0;
            int stands = r < 0 ? NONE : now.thing(bottom, r);
            for (int b = 0; b < now.rooms(); b++) {
                int top = now.roomAbove(bottom, b, 0);
                if (now.wish(top) == NOTHING || hasBit(met, top)) {
                    continue;
                }
                int thing = leastThingFor(top);
                if (thing == NONE) {
                    return NONE;
                }
                moved++;
                if (b == r) {
                    stands = thing;
                }
            }
            return r < 0 ? moved : stands;
        }

        private int leastThingFor(int top) {
            for (int v = 0; v < THINGS; v++) {
                if (hasBit(metBy[v], top)) {
                    return v;
                }
            }
            return NONE;
        }

        int bestPin(Nursery now, int n, boolean which) {
            int met = metBehind(now, n);
            int most = -1;
            int best = 0;
            for (int h = 0; h < now.houses(); h++) {
                tryThings(now, n, h);
                for (int r = 0; r < now.rooms(); r++) {
                    int top = 1 << now.roomAbove(h, r, 0);
                    for (int v = 0; v < THINGS; v++) {
                        int number = Integer.bitCount(met & ~top | metBy[v] & top);
                        if (number > most && v != now.thing(h, r)) {
                            most = number;
                            best = 100 * h + 10 * r + v;
                        }
                    }
                }
            }
            return which ? best : most;
        }

        /** For each thing, were it in all rooms of a house now: the rooms that are met behind n days. */
        private void tryThings(Nursery now, int n, int h) {
            for (int v = 0; v < THINGS; v++) {
                trial.become(now);
                trial.placeAll(h, v);
                trial.live(n);
                metBy[v] = trial.metRooms();
            }
        }

        int worstMouse(Nursery now, int n, boolean which) {
            int fewest = ROOMS_MOST + 1;
            int worst = NONE;
            for (int h = 0; h < now.houses(); h++) {
                if (now.hasMouse(h)) {
                    continue;
                }
                trial.become(now);
                trial.toggleMouse(h);
                trial.live(n);
                int number = Integer.bitCount(trial.metRooms());
                if (number < fewest) {
                    fewest = number;
                    worst = h;
                }
            }
            return which || worst == NONE ? worst : fewest;
        }

        int mostTelling(Nursery now, int n, int h, boolean which) {
            gatherValues(now, n, h);
            int most = 0;
            int best = 0;
            for (int b = 0; b < now.rooms(); b++) {
                int number = Integer.bitCount(valuesBy[b]);
                if (number > most) {
                    most = number;
                    best = b;
                }
            }
            return which ? best : most;
        }

        /** For each room at the bottom: what the room of house h that goes by it may hold, as bits. */
        private void gatherValues(Nursery now, int n, int h) {
            Arrays.fill(valuesBy, 0);
            int bottom = now.bottom();
            for (int v = 0; v < THINGS; v++) {
                trial.become(now);
                trial.placeAll(bottom, v);
                trial.live(n);
                for (int b = 0; b < now.rooms(); b++) {
                    valuesBy[b] |= 1 << trial.thing(h, now.roomAbove(bottom, b, h));
                }
            }
        }

        private static boolean hasBit(int bits, int place) {
            return (bits >> place & 1) == 1;
        }
    }

    /** What is seen: that so many days from any now on a thing stands in a room. */
    private static final class Sightings {
        private final int[] days = new int[SEEN_MOST];
        private final int[] houses = new int[SEEN_MOST];
        private final int[] rooms = new int[SEEN_MOST];
        private final int[] things = new int[SEEN_MOST];
        private int size;

        int size() {
            return size;
        }

        void clear() {
            size = 0;
        }

        boolean add(int n, int h, int r, int v) {
            if (size >= SEEN_MOST) {
                return false;
            }
            days[size] = n;
            houses[size] = h;
            rooms[size] = r;
            things[size] = v;
            size++;
            return true;
        }

        /** Whether all of it is so in the days to come; they go by in the nursery. */
        boolean comeTrueIn(Nursery nursery) {
            int furthest = furthestDay();
            for (int n = 0; n <= furthest; n++) {
                if (!areSo(n, nursery)) {
                    return false;
                }
                nursery.comeUp();
            }
            return true;
        }

        private int furthestDay() {
            int furthest = 0;
            for (int i = 0; i < size; i++) {
                furthest = Math.max(furthest, days[i]);
            }
            return furthest;
        }

        private boolean areSo(int n, Nursery nursery) {
            for (int i = 0; i < size; i++) {
                if (days[i] == n && nursery.thing(houses[i], rooms[i]) != things[i]) {
                    return false;
                }
            }
            return true;
        }
    }

    /** What comes up when they sneeze by chance, and centuries by draws. */
    private static final class Chances {
        private final Nursery trial = new Nursery();

        /** Of n days the first ones, whose sneezes at the bottom can still come up to the top. */
        static int tellingDays(Nursery now, int n) {
            // It takes a day a house, and what comes too late makes nothing more or less likely.
            return Math.max(0, n + HOUSES_LEAST - now.houses());
        }

        /** Of all ways, ten a telling day, those by which v stands in room r at the top behind n days. */
        int waysOf(Nursery now, int n, int r, int v, int x) {
            int days = tellingDays(now, n);
            int ways = 0;
            // A bit of the pattern is one day's sneeze, so each course of the days comes once.
            for (int pattern = 0; pattern < 1 << days; pattern++) {
                int sneezes = Integer.bitCount(pattern);
                int weight = power(x, sneezes) * power(TENTHS - x, days - sneezes);
                if (weight > 0 && topBehind(now, pattern, n, r) == v) {
                    ways += weight;
                }
            }
            return ways;
        }

        private int topBehind(Nursery now, int pattern, int n, int r) {
            trial.become(now);
            for (int d = 0; d < n; d++) {
                if ((pattern >> d & 1) == 1) {
                    trial.shift(trial.bottom());
                }
                trial.comeUp();
            }
            return trial.thing(0, r);
        }

        static void liveCentury(Nursery nursery, int z, int n) {
            for (int d = 0; d < n; d++) {
                actBy(nursery, draw(z, d));
                nursery.comeUp();
            }
        }

        private static int draw(int z, int d) {
            long x = 7919L * z + 6151L * d + 1;
            return (int) (x * x % 65521 / 2);
        }

        private static void actBy(Nursery nursery, int draw) {
            int h = modulo(draw, nursery.houses());
            int r = modulo(draw / 8, nursery.rooms());
            switch (draw / 64 % 6) {
                case 0:
                    nursery.place(h, r, draw / 512 % THINGS);
                    break;
                case 1:
                    nursery.shift(h);
                    break;
                case 2:
                    nursery.toggleMouse(h);
                    break;
                default:
                    break;
            }
        }

        private static int modulo(int number, int divisor) {
            return divisor > 0 ? number % divisor : 0;
        }
    }
}
