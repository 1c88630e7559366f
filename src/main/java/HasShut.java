/** A morning's things that one has shut, or not, and whether to go back for them. */
public final class HasShut {
    public static final int BAD = -1, NOT = -2, FULL = -3, STATE = -5, VOID = -2000000000;

    private static final int NOTHING_THERE = -11, OTHER_KIND = -12, NO_PLACE = -13, BELOW_NOTHING = -14;
    // What a long answers for BAD: -1 may be a fraction's part or an element.
    private static final long BAD_LONG = -9223372036854775808L;
    private static final int THINGS = 6, ROOMS = 6, SHELVES = 6;
    private static final int ALL_BITS = 63, MOST_IN_DOUBT = 4, FARTHEST = 99;
    private static final int UNKNOWN = 2;

    private final Told told = new Told();
    private final Changes changes = new Changes();
    private final Days days = new Days();
    private final Days kept = new Days();
    private boolean hasImage = false;
    private final Law law = new Law();
    private final Fraction answer = new Fraction();
    private final Doubts doubts = new Doubts();
    private final Paths paths = new Paths();
    private final Draws draws = new Draws();
    private final Goers goers = new Goers();
    private final Shelf[] shelves = new Shelf[SHELVES];

    public HasShut() {
        for (int i = 0; i < SHELVES; i++) {
            shelves[i] = new Shelf();
        }
    }

    // ---- things

    public int thing(int forgotten, int harm) {
        if (!within(forgotten, Told.MOST[Told.FORGOTTEN]) || !within(harm, Told.MOST[Told.HARM])) {
            return BAD;
        }
        if (told.things >= THINGS) {
            return FULL;
        }
        return told.come(forgotten, Told.FIRST_TRACE, Told.FIRST_STALE, harm);
    }

    public int things(int shelf, int i, int n) {
        if (!isShelf(shelf) || n < 1 || n > THINGS) {
            return BAD;
        }
        Shelf from = shelves[shelf];
        if (from.holds == Shelf.NOTHING) {
            return 0;
        }
        if (!from.isRow(Shelf.BYTES)) {
            return OTHER_KIND;
        }
        int came = 0;
        while (came < n && comesFrom(from, i + 3L * came)) {
            came++;
        }
        return came;
    }

    public int mend(int number, int what, int v) {
        int place = told.placeOf(number, what);
        if (place < 0 || !within(v, told.mostOf(what))) {
            return BAD;
        }
        int was = told.at(place);
        if (was != v) {
            changes.add(place, was, v);
            told.become(place, v);
        }
        return was;
    }

    public int of(int number, int what) {
        int place = told.placeOf(number, what);
        if (place >= 0) {
            return told.at(place);
        }
        if (what == 10 && isThing(number)) {
            return days.used[number];
        }
        if (number == 0 && what == 11) {
            return days.vain;
        }
        if (number == 0 && what == 12) {
            return days.rung;
        }
        return BAD;
    }

    public int feed(int letter) {
        if (!within(letter, 255)) {
            return BAD;
        }
        if (law.taped >= Law.LONGEST) {
            return FULL;
        }
        return law.append(letter);
    }

    public int law() {
        int fault = law.enact();
        return fault < 0 ? 1 : -100 - fault;
    }

    public long open(int thing, int r, int part) {
        if (!isThing(thing) || !within(r, UNKNOWN) || !within(part, 1)) {
            return BAD_LONG;
        }
        return findOpen(thing, r, answer) ? answer.part(part) : NOT;
    }

    // ---- going back

    public int pays(int tr, int y) {
        if (!isThingAndMemory(tr, UNKNOWN) || !within(y, FARTHEST)) {
            return BAD;
        }
        if (!findOpen(tr / 10, tr % 10, answer)) {
            return NOT;
        }
        return paysBy(answer, tr / 10, y) ? 1 : 0;
    }

    public long worth(int tr, int y, int part) {
        if (!isThingAndMemory(tr, UNKNOWN) || !within(y, FARTHEST) || !within(part, 1)) {
            return BAD_LONG;
        }
        if (!findOpen(tr / 10, tr % 10, answer)) {
            return NOT;
        }
        long harm = told.ofThing(Told.HARM, tr / 10);
        answer.become(answer.above * harm - wayBack(y) * answer.below, answer.below);
        return answer.part(part);
    }

    public int howFar(int tr) {
        if (!isThingAndMemory(tr, UNKNOWN)) {
            return BAD;
        }
        if (!findOpen(tr / 10, tr % 10, answer)) {
            return NOT;
        }
        for (int y = FARTHEST; y >= 0; y--) {
            if (paysBy(answer, tr / 10, y)) {
                return y;
            }
        }
        return NOT;
    }

    public long best(int dr, int y, int part) {
        if (!isDoubt(dr) || !within(y, FARTHEST) || !within(part, 2)) {
            return BAD_LONG;
        }
        if (!findDoubts(dr)) {
            return NOT;
        }
        int looks = doubts.bestLooks(wayBack(y), told.look());
        if (part == 2) {
            return looks;
        }
        answer.become(doubts.costOf(looks, wayBack(y), told.look()), doubts.scale);
        return answer.part(part);
    }

    public int gone(int dr, int y) {
        if (!isDoubt(dr) || !within(y, FARTHEST)) {
            return BAD;
        }
        if (!findDoubts(dr)) {
            return NOT;
        }
        int worst = doubts.worst();
        if (worst < 0) {
            return 0;
        }
        int harm = told.ofThing(Told.HARM, worst);
        int inDoubt = Integer.bitCount(doubts.bits);
        return law.says(doubts.open[worst].of144(), harm, y, told.price(), days.vain, inDoubt) ? 1 : 0;
    }

    public long plan(int dr, int yb, int part) {
        if (!isDoubt(dr) || yb < 0 || !within(yb / 64, FARTHEST) || !areThings(yb % 64) || !within(part, 2)) {
            return BAD_LONG;
        }
        if (!findDoubts(dr)) {
            return NOT;
        }
        long way = wayBack(yb / 64);
        int choice = 0;
        long least = 12 * doubts.stay;
        if (12 * doubts.scale * way < least) {
            choice = 1;
            least = 12 * doubts.scale * way;
        }
        long ringing = doubts.costOfRinging(way, told.ring(), 12 - days.rung, yb % 64);
        if (ringing < least) {
            choice = 2;
            least = ringing;
        }
        if (part == 2) {
            return choice;
        }
        answer.become(least, 12 * doubts.scale);
        return answer.part(part);
    }

    public int rung() {
        days.rung = Math.min(days.rung + 1, 12);
        return days.rung;
    }

    // ---- two, ways, lists

    public long two(int ab, int what, int part) {
        if (ab < 0 || !within(ab / 100, 12) || !within(ab % 100, 12) || !within(what, 3) || !within(part, 1)) {
            return BAD_LONG;
        }
        int a = ab / 100;
        int b = ab % 100;
        int nobody = (12 - a) * (12 - b);
        int both = a * b;
        switch (what) {
            case 0:
                answer.become(nobody, 144);
                break;
            case 1:
                answer.become(144 - nobody - both, 144);
                break;
            case 2:
                answer.become(both, 144);
                break;
            default:
                answer.become(nobody + both, 144);
                break;
        }
        return answer.part(part);
    }

    public int shortest(int az, int rooms, int k) {
        if (az < 0 || !within(az / 10, ROOMS - 1) || !within(az % 10, ROOMS - 1)) {
            return BAD;
        }
        if (!within(rooms, ALL_BITS) || k < -1) {
            return BAD;
        }
        paths.find(told, az / 10, az % 10, rooms);
        if (k < 0) {
            return paths.yards;
        }
        return k < paths.size ? paths.best[k] : NOT;
    }

    public int length(int shelf, int what) {
        if (!isShelf(shelf) || !within(what, 1)) {
            return BAD;
        }
        Shelf way = shelves[shelf];
        int refusal = way.refusal(Shelf.BYTES);
        if (refusal != 0) {
            return refusal;
        }
        if (way.size == 0 || !areRooms(way)) {
            return STATE;
        }
        int yards = lengthOf(way);
        if (what == 0) {
            return yards;
        }
        paths.find(told, (int) way.at(0), (int) way.at(way.size - 1), roomsOf(way));
        return yards - paths.yards;
    }

    public long list(int ts, int part) {
        if (ts < 0 || !isThing(ts / 100) || !within(ts % 100, 12) || !within(part, 1)) {
            return BAD_LONG;
        }
        long forgotten = told.ofThing(Told.FORGOTTEN, ts / 100);
        long lied = forgotten * (ts % 100);
        return answer.become(lied, lied + (144 - forgotten) * 12) ? answer.part(part) : NOT;
    }

    public long ever(int thing, int n, int part) {
        if (!isThing(thing) || !within(n, 7) || !within(part, 1)) {
            return BAD_LONG;
        }
        long done = 144 - told.ofThing(Told.FORGOTTEN, thing);
        long all = 1;
        long never = 1;
        for (int i = 0; i < n; i++) {
            all *= 144;
            never *= done;
        }
        answer.become(all - never, all);
        return answer.part(part);
    }

    public long camera(int dr, int y, int part) {
        if (!isDoubt(dr) || !within(y, FARTHEST) || !within(part, 2)) {
            return BAD_LONG;
        }
        if (!findDoubts(dr)) {
            return NOT;
        }
        int which = doubts.bestSeen(wayBack(y));
        if (which < 0) {
            return NOT;
        }
        if (part == 2) {
            return which;
        }
        answer.become(doubts.savedBy(which, wayBack(y)), doubts.scale);
        return answer.part(part);
    }

    // ---- mornings

    public int drawn(int seed, int n, int tyw, int what) {
        if (n < 1 || n > 60 || tyw < 0 || !isThing(tyw / 1000) || !isWay(tyw % 10) || !within(what, 1)) {
            return BAD;
        }
        int thing = tyw / 1000;
        int y = tyw / 10 % 100;
        int forgotten = told.ofThing(Told.FORGOTTEN, thing);
        // All that a way of deciding looks at stays as it is: it decides once for each memory.
        boolean backRemembered = decides(tyw % 10, thing, 1, y);
        boolean backElse = decides(tyw % 10, thing, 0, y);
        int costs = 0;
        int vain = 0;
        draws.z = seed;
        for (int i = 0; i < n; i++) {
            draws.drawMorning(forgotten, traceOf(thing), staleOf(thing));
            boolean goesBack = draws.remembered ? backRemembered : backElse;
            costs += costOf(thing, y, goesBack, draws.open);
            vain += goesBack && !draws.open ? 1 : 0;
        }
        return what == 0 ? costs : vain;
    }

    public int fits(int shelf, int tr) {
        if (!isShelf(shelf) || !isThingAndMemory(tr, 1)) {
            return BAD;
        }
        int refusal = gravelRefusal(shelves[shelf]);
        if (refusal != 0) {
            return refusal;
        }
        int ways = 0;
        for (int way = 0; way <= 4; way++) {
            if (firstOtherwise(shelves[shelf], tr, way) < 0) {
                ways |= 1 << way;
            }
        }
        return ways;
    }

    public int when(int shelf, int tr, int way) {
        if (!isShelf(shelf) || !isThingAndMemory(tr, 1) || !isWay(way)) {
            return BAD;
        }
        int refusal = gravelRefusal(shelves[shelf]);
        if (refusal != 0) {
            return refusal;
        }
        int first = firstOtherwise(shelves[shelf], tr, way);
        return first < 0 ? NOT : first;
    }

    public int judge(int shelf) {
        if (!isShelf(shelf)) {
            return BAD;
        }
        Shelf mornings = shelves[shelf];
        int refusal = mornings.refusal(Shelf.SHORTS);
        if (refusal != 0) {
            return refusal;
        }
        for (int i = 0; i < mornings.size; i += 3) {
            if (i + 2 >= mornings.size || !isSo(mornings.at(i), mornings.at(i + 1), mornings.at(i + 2))) {
                return i / 3;
            }
        }
        return NOT;
    }

    public int morning(int thing, int seed) {
        if (!isThing(thing)) {
            return BAD;
        }
        if (days.thing >= 0) {
            return STATE;
        }
        draws.z = seed;
        draws.drawMorning(told.ofThing(Told.FORGOTTEN, thing), traceOf(thing), staleOf(thing));
        days.thing = thing;
        days.open = draws.open;
        if (isMarked(thing)) {
            days.use(thing);
        }
        return draws.remembered ? 1 : 0;
    }

    public int goBack(int y) {
        if (!within(y, FARTHEST)) {
            return BAD;
        }
        if (days.thing < 0) {
            return STATE;
        }
        int cost = costOf(days.thing, y, true, days.open);
        days.end(cost, true);
        return cost;
    }

    public int goOn() {
        if (days.thing < 0) {
            return STATE;
        }
        int cost = costOf(days.thing, 0, false, days.open);
        days.end(cost, false);
        return cost;
    }

    public int dayOff() {
        return days.rest();
    }

    public int led(int what) {
        return within(what, Days.LED - 1) ? days.led[what] : BAD;
    }

    public int image() {
        kept.copy(days);
        hasImage = true;
        return days.led[Days.MORNINGS];
    }

    public int back() {
        if (!hasImage) {
            return STATE;
        }
        // A THING that came since is not USED in the image: its place there holds 0.
        days.copy(kept);
        return days.led[Days.MORNINGS];
    }

    public int undo() {
        if (changes.done == 0) {
            return STATE;
        }
        changes.takeBack(told);
        return changes.done;
    }

    public int redo() {
        if (changes.done == changes.size) {
            return STATE;
        }
        changes.doAgain(told);
        return changes.size - changes.done;
    }

    // ---- acts, shelves

    public int body(int kind) {
        if (!within(kind, Goers.KINDS - 1)) {
            return BAD;
        }
        if (goers.size >= Goers.MOST) {
            return FULL;
        }
        return goers.come(kind);
    }

    public int act(int body, int act, int x) {
        goers.ran = 0;
        if (!isGoer(body) || !within(act, Goers.ACTS - 1)) {
            return 0;
        }
        return goers.begin(body, act, x);
    }

    public int trace(int i) {
        return i >= 0 && i < Math.min(goers.ran, Goers.KEPT) ? goers.trace[i] : BAD;
    }

    public int keep(int shelf, int body) {
        if (!isShelf(shelf) || body != -1 && !isGoer(body)) {
            return BAD;
        }
        shelves[shelf].holdGoer(body);
        return 1;
    }

    public int row(int shelf, int sort, int n) {
        if (!isShelf(shelf) || !within(sort, Shelf.BOOLEANS) || n > Shelf.MOST) {
            return BAD;
        }
        if (n < 0) {
            return BELOW_NOTHING;
        }
        shelves[shelf].holdRow(sort, n);
        return 1;
    }

    public int put(int shelf, int i, long v) {
        if (!isShelf(shelf)) {
            return BAD;
        }
        int refusal = shelves[shelf].refusalAt(i);
        if (refusal != 0) {
            return refusal;
        }
        shelves[shelf].become(i, v);
        return 1;
    }

    public long element(int shelf, int i) {
        if (!isShelf(shelf) || shelves[shelf].refusalAt(i) != 0) {
            return BAD_LONG;
        }
        return shelves[shelf].at(i);
    }

    public int shift(int shelf, int i, int other, int j, int n) {
        if (!isShelf(shelf) || !isShelf(other)) {
            return BAD;
        }
        Shelf from = shelves[shelf];
        Shelf to = shelves[other];
        if (from.holds == Shelf.NOTHING || to.holds == Shelf.NOTHING) {
            return NOTHING_THERE;
        }
        if (from.holds != Shelf.ROW || to.holds != Shelf.ROW || from.sort != to.sort) {
            return OTHER_KIND;
        }
        if (!from.hasPlaces(i, n) || !to.hasPlaces(j, n)) {
            return NO_PLACE;
        }
        System.arraycopy(from.elements, i, to.elements, j, n);
        return n;
    }

    public int taken(int shelf, int k) {
        if (!isShelf(shelf) || !within(k, Goers.KINDS - 1)) {
            return BAD;
        }
        Shelf held = shelves[shelf];
        if (held.holds == Shelf.NOTHING) {
            return NOTHING_THERE;
        }
        if (held.holds != Shelf.GOER || !isGoer(held.goer)) {
            return OTHER_KIND;
        }
        int kind = goers.kinds[held.goer];
        return Goers.isUnder(kind, k) ? kind : OTHER_KIND;
    }

    public int count(int what) {
        switch (what) {
            case 0:
                return told.things;
            case 1:
                return countMarked();
            case 2:
                return law.taped;
            case 3:
                return changes.done;
            case 4:
                return goers.size;
            case 5:
                return goers.ran;
            default:
                return BAD;
        }
    }

    // ---- what is asked of the arguments

    private static boolean within(int number, int most) {
        return number >= 0 && number <= most;
    }

    private static boolean isWay(int way) {
        return within(way, 4);
    }

    private static boolean isShelf(int shelf) {
        return within(shelf, SHELVES - 1);
    }

    private boolean isGoer(int body) {
        return body >= 0 && body < goers.size;
    }

    private boolean isThing(int thing) {
        return thing >= 0 && thing < told.things;
    }

    private boolean areThings(int bits) {
        return bits >= 0 && bits >> told.things == 0;
    }

    private boolean isThingAndMemory(int tr, int mostMemory) {
        return tr >= 0 && isThing(tr / 10) && within(tr % 10, mostMemory);
    }

    private boolean isDoubt(int dr) {
        int inDoubt = dr & ALL_BITS;
        return dr >= 0 && (dr >> THINGS & ~inDoubt) == 0 && areThings(inDoubt)
                && Integer.bitCount(inDoubt) <= MOST_IN_DOUBT;
    }

    // ---- a THING

    /** A THING comes from three elements, if they are there and are as a THING's. */
    private boolean comesFrom(Shelf from, long place) {
        if (told.things >= THINGS || place < 0 || place + 2 >= from.size) {
            return false;
        }
        int forgotten = (int) from.at((int) place);
        int trace = (int) from.at((int) place + 1);
        int stale = (int) from.at((int) place + 2);
        if (!within(forgotten, 127) || !within(trace, 12) || !within(stale, 12)) {
            return false;
        }
        told.come(forgotten, trace, stale, Told.FIRST_HARM);
        return true;
    }

    private boolean isMarked(int thing) {
        return told.ofThing(Told.MARKED, thing) == 1;
    }

    private int countMarked() {
        int marked = 0;
        for (int thing = 0; thing < told.things; thing++) {
            marked += told.ofThing(Told.MARKED, thing);
        }
        return marked;
    }

    private int traceOf(int thing) {
        return isMarked(thing) ? 12 : told.ofThing(Told.TRACE, thing);
    }

    private int staleOf(int thing) {
        return isMarked(thing) && isThing(thing) ? days.used[thing] : told.ofThing(Told.STALE, thing);
    }

    /** How likely a THING is open; false, and 0, if it cannot be so. */
    private boolean findOpen(int thing, int r, Fraction into) {
        long forgotten = told.ofThing(Told.FORGOTTEN, thing);
        if (r == UNKNOWN) {
            return into.become(forgotten, 144);
        }
        long ifDone = r == 1 ? traceOf(thing) : 12 - traceOf(thing);
        long ifNot = r == 1 ? staleOf(thing) : 12 - staleOf(thing);
        return into.become(forgotten * ifNot, forgotten * ifNot + (144 - forgotten) * ifDone);
    }

    /** How likely those in doubt are open; false if one cannot be so. */
    private boolean findDoubts(int dr) {
        doubts.bits = dr & ALL_BITS;
        boolean can = true;
        for (int thing = 0; thing < THINGS; thing++) {
            if (doubts.has(thing)) {
                can = findOpen(thing, dr >> THINGS >> thing & 1, doubts.open[thing]) && can;
                doubts.harm[thing] = told.ofThing(Told.HARM, thing);
            }
        }
        doubts.weigh();
        return can;
    }

    // ---- going back or not

    private int wayBack(int y) {
        return 2 * y * told.price();
    }

    private boolean paysBy(Fraction open, int thing, int y) {
        return wayBack(y) * open.below < open.above * told.ofThing(Told.HARM, thing);
    }

    private boolean decides(int way, int thing, int r, int y) {
        switch (way) {
            case 1:
                return true;
            case 2:
                return r == 0;
            case 3:
                findOpen(thing, r, answer);
                return paysBy(answer, thing, y);
            case 4:
                findOpen(thing, r, answer);
                return law.says(answer.of144(), told.ofThing(Told.HARM, thing), y, told.price(), days.vain, 1);
            default:
                return false;
        }
    }

    private int costOf(int thing, int y, boolean goesBack, boolean open) {
        if (goesBack) {
            return wayBack(y);
        }
        return open ? told.ofThing(Told.HARM, thing) : 0;
    }

    // ---- rows that are read

    private static boolean areRooms(Shelf way) {
        for (int i = 0; i < way.size; i++) {
            if (way.at(i) < 0 || way.at(i) >= ROOMS) {
                return false;
            }
        }
        return true;
    }

    private static int roomsOf(Shelf way) {
        int rooms = 0;
        for (int i = 0; i < way.size; i++) {
            rooms |= 1 << (int) way.at(i);
        }
        return rooms;
    }

    private int lengthOf(Shelf way) {
        int yards = 0;
        for (int i = 1; i < way.size; i++) {
            yards += told.yards((int) way.at(i - 1), (int) way.at(i));
        }
        return yards;
    }

    private static int gravelRefusal(Shelf gravel) {
        int refusal = gravel.refusal(Shelf.BYTES);
        if (refusal != 0) {
            return refusal;
        }
        if (gravel.size % 2 != 0) {
            return STATE;
        }
        for (int i = 0; i < gravel.size; i++) {
            if (gravel.at(i) < 0 || gravel.at(i) > (i % 2 == 0 ? 1 : FARTHEST)) {
                return STATE;
            }
        }
        return 0;
    }

    /** The first morning on which the gravel tells otherwise than a way of deciding; -1: none. */
    private int firstOtherwise(Shelf gravel, int tr, int way) {
        for (int i = 0; i + 1 < gravel.size; i += 2) {
            boolean goesBack = decides(way, tr / 10, tr % 10, (int) gravel.at(i + 1));
            if (goesBack != (gravel.at(i) == 1)) {
                return i / 2;
            }
        }
        return -1;
    }

    private boolean isSo(long thing, long r, long parts) {
        if (!isThing((int) thing) || r < 0 || r > 1) {
            return false;
        }
        return findOpen((int) thing, (int) r, answer) && answer.of144() == parts;
    }

    /** A number by another, in lowest terms. */
    private static final class Fraction {
        long above = 0;
        long below = 1;

        /** False, and 0, if nothing is below the line. */
        boolean become(long newAbove, long newBelow) {
            if (newBelow <= 0) {
                above = 0;
                below = 1;
                return false;
            }
            long divisor = commonDivisor(Math.abs(newAbove), newBelow);
            if (divisor <= 0) {
                divisor = 1;
            }
            above = newAbove / divisor;
            below = newBelow / divisor;
            return true;
        }

        long part(int part) {
            return part == 0 ? above : below;
        }

        /** In 144 parts, cut. */
        int of144() {
            return below > 0 ? (int) (144 * above / below) : 0;
        }

        private static long commonDivisor(long a, long b) {
            // Euclid's way ends in less than 100 steps for longs.
            for (int i = 0; i < 100 && b != 0; i++) {
                long rest = a % b;
                a = b;
                b = rest;
            }
            return a;
        }
    }

    /** What may be told anew: numbers of THINGS, prices, yards; each has one place in a row. */
    private static final class Told {
        static final int FORGOTTEN = 0, TRACE = 1, STALE = 2, HARM = 3, MARKED = 4, ROOM = 5;
        static final int PRICE = 6, LOOK = 7, RING = 8, YARDS = 9;
        static final int[] MOST = {144, 12, 12, 999, 1, 5, 99, 99, 99, 99};
        static final int FIRST_TRACE = 10, FIRST_STALE = 3, FIRST_HARM = 100;
        private static final int PRICES = 36, BETWEEN = 39, PLACES = 75;

        private final int[] numbers = new int[PLACES];
        int things = 0;

        Told() {
            numbers[PRICES] = 1;
            numbers[PRICES + RING - PRICE] = 5;
            for (int i = BETWEEN; i < PLACES; i++) {
                numbers[i] = 9;
            }
        }

        /** The caller has seen to it that there is room for one more. */
        int come(int forgotten, int trace, int stale, int harm) {
            int thing = things;
            if (thing >= THINGS) {
                return FULL;
            }
            numbers[THINGS * FORGOTTEN + thing] = forgotten;
            numbers[THINGS * TRACE + thing] = trace;
            numbers[THINGS * STALE + thing] = stale;
            numbers[THINGS * HARM + thing] = harm;
            things++;
            return thing;
        }

        /** The place of what mend() names; -1: there is none. */
        int placeOf(int number, int what) {
            if (number < 0 || what < FORGOTTEN || what > YARDS) {
                return -1;
            }
            if (what <= ROOM) {
                return number < things ? THINGS * what + number : -1;
            }
            if (what < YARDS) {
                return number == 0 ? PRICES + what - PRICE : -1;
            }
            int one = number / 10;
            int other = number % 10;
            return one < ROOMS && other < ROOMS && one != other ? between(one, other) : -1;
        }

        int mostOf(int what) {
            return what >= 0 && what < MOST.length ? MOST[what] : -1;
        }

        int at(int place) {
            return place >= 0 && place < PLACES ? numbers[place] : 0;
        }

        void become(int place, int v) {
            if (place >= 0 && place < PLACES) {
                numbers[place] = v;
            }
        }

        int ofThing(int what, int thing) {
            return thing >= 0 && thing < things ? at(THINGS * what + thing) : 0;
        }

        int price() {
            return numbers[PRICES];
        }

        int look() {
            return numbers[PRICES + LOOK - PRICE];
        }

        int ring() {
            return numbers[PRICES + RING - PRICE];
        }

        int yards(int one, int other) {
            return one == other ? 0 : at(between(one, other));
        }

        private static int between(int one, int other) {
            return BETWEEN + ROOMS * Math.min(one, other) + Math.max(one, other);
        }
    }

    /** CHANGES, the latest last: those that are done, and behind them those undone. */
    private static final class Changes {
        private static final int MOST = 40;

        private final int[] places = new int[MOST];
        private final int[] olds = new int[MOST];
        private final int[] news = new int[MOST];
        int size = 0;
        int done = 0;

        void add(int place, int was, int becomes) {
            if (done >= MOST) {
                dropOldest();
            }
            places[done] = place;
            olds[done] = was;
            news[done] = becomes;
            done++;
            size = done;
        }

        void takeBack(Told told) {
            if (done > 0) {
                done--;
                told.become(places[done], olds[done]);
            }
        }

        void doAgain(Told told) {
            if (done < size) {
                told.become(places[done], news[done]);
                done++;
            }
        }

        private void dropOldest() {
            for (int i = 1; i < MOST; i++) {
                places[i - 1] = places[i];
                olds[i - 1] = olds[i];
                news[i - 1] = news[i];
            }
            done = MOST - 1;
        }
    }

    /** What the days leave: all that AN IMAGE keeps. */
    private static final class Days {
        static final int LED = 5, MORNINGS = 0, BACK = 1, IN_VAIN = 2, COSTS = 3, DEAREST = 4;

        final int[] used = new int[THINGS];
        private int usedSince = 0;
        int vain = 0;
        int rung = 0;
        final int[] led = new int[LED];
        /** The MORNING's THING; -1: there is no MORNING. */
        int thing = -1;
        boolean open = false;

        void use(int marked) {
            if (marked >= 0 && marked < THINGS) {
                used[marked] = Math.min(used[marked] + 1, 12);
                usedSince |= 1 << marked;
            }
        }

        void end(int cost, boolean wentBack) {
            led[MORNINGS]++;
            led[COSTS] += cost;
            led[DEAREST] = Math.max(led[DEAREST], cost);
            if (wentBack) {
                led[BACK]++;
            }
            if (wentBack && !open) {
                led[IN_VAIN]++;
                vain = Math.min(vain + 1, 99);
            }
            thing = -1;
        }

        int rest() {
            int less = 0;
            for (int i = 0; i < THINGS; i++) {
                if ((usedSince >> i & 1) == 0 && used[i] > 0) {
                    used[i]--;
                    less++;
                }
            }
            usedSince = 0;
            return less;
        }

        void copy(Days other) {
            for (int i = 0; i < THINGS; i++) {
                used[i] = other.used[i];
            }
            for (int i = 0; i < LED; i++) {
                led[i] = other.led[i];
            }
            usedSince = other.usedSince;
            vain = other.vain;
            rung = other.rung;
            thing = other.thing;
            open = other.open;
        }
    }

    /** Mornings as z draws them. */
    private static final class Draws {
        int z = 0;
        boolean open = false;
        boolean remembered = false;

        void drawMorning(int forgotten, int trace, int stale) {
            open = draw(144) < forgotten;
            remembered = draw(12) < (open ? stale : trace);
        }

        private int draw(int parts) {
            z = z * 1103515245 + 12345;
            return parts > 0 ? (z >>> 8) % parts : 0;
        }
    }

    /**
     * THINGS in doubt. Costs are whole numbers here: times scale, which is all that stands below
     * the lines. With four THINGS it is at most 1728 to the fourth, so that the costs fit a long.
     */
    private static final class Doubts {
        int bits = 0;
        final Fraction[] open = new Fraction[THINGS];
        final int[] harm = new int[THINGS];
        private final long[] risk = new long[THINGS];
        long scale = 1;
        long stay = 0;

        Doubts() {
            for (int i = 0; i < THINGS; i++) {
                open[i] = new Fraction();
            }
        }

        boolean has(int thing) {
            return (bits >> thing & 1) == 1;
        }

        /** To be called when bits, open and harm are new. */
        void weigh() {
            scale = 1;
            for (int i = 0; i < THINGS; i++) {
                scale *= has(i) ? open[i].below : 1;
            }
            stay = 0;
            for (int i = 0; i < THINGS; i++) {
                risk[i] = has(i) ? harm[i] * chance(i, scale) : 0;
                stay += risk[i];
            }
        }

        long costOf(int looks, long way, int look) {
            long cost = looks == 0 ? 0 : scale * (way + look * Integer.bitCount(looks));
            for (int i = 0; i < THINGS; i++) {
                if ((looks >> i & 1) == 0) {
                    cost += risk[i];
                }
            }
            return cost;
        }

        int bestLooks(long way, int look) {
            int least = 0;
            long leastCost = stay;
            for (int looks = 1; looks <= ALL_BITS; looks++) {
                if ((looks & ~bits) == 0 && costOf(looks, way, look) < leastCost) {
                    least = looks;
                    leastCost = costOf(looks, way, look);
                }
            }
            return least;
        }

        /** The THING by which o times h is greatest; -1: nothing is in doubt. */
        int worst() {
            int worst = -1;
            for (int i = 0; i < THINGS; i++) {
                if (has(i) && (worst < 0 || open[i].of144() * harm[i] > open[worst].of144() * harm[worst])) {
                    worst = i;
                }
            }
            return worst;
        }

        /** Twelve times what ringing costs: she picks up in so many of twelve. */
        long costOfRinging(long way, int ring, int picksUp, int seen) {
            long noneOpen = 1;
            for (int i = 0; i < THINGS; i++) {
                if (has(i)) {
                    noneOpen *= (seen >> i & 1) == 1 ? open[i].below - open[i].above : open[i].below;
                }
            }
            long heard = way * (scale - noneOpen);
            for (int i = 0; i < THINGS; i++) {
                if (has(i) && (seen >> i & 1) == 0) {
                    heard += harm[i] * chance(i, noneOpen);
                }
            }
            return 12 * scale * ring + picksUp * heard + (12 - picksUp) * Math.min(stay, way * scale);
        }

        /** The THING of which to know saves most; -1: nothing is in doubt. */
        int bestSeen(long way) {
            int most = -1;
            for (int i = 0; i < THINGS; i++) {
                if (has(i) && (most < 0 || savedBy(i, way) > savedBy(most, way))) {
                    most = i;
                }
            }
            return most;
        }

        long savedBy(int seen, long way) {
            long above = open[seen].above;
            long below = open[seen].below;
            if (below <= 0) {
                return 0;
            }
            long others = scale / below;
            long othersStay = (stay - risk[seen]) / below;
            long ifOpen = Math.min(way * others, othersStay + harm[seen] * others);
            long ifShut = Math.min(way * others, othersStay);
            return Math.min(stay, way * scale) - above * ifOpen - (below - above) * ifShut;
        }

        /** How likely a THING is open times a number that what is below its line divides. */
        private long chance(int thing, long number) {
            long below = open[thing].below;
            return below > 0 ? open[thing].above * (number / below) : 0;
        }
    }

    /** The shortest way by told ROOMS. */
    private static final class Paths {
        private static final int LONGEST = 7, ORDERS = 120;

        private final int[] order = new int[LONGEST];
        final int[] best = new int[LONGEST];
        int size = 0;
        int yards = 0;

        void find(Told told, int a, int z, int rooms) {
            begin(a, z, rooms);
            yards = yardsOf(told);
            keepOrder();
            // Orders come as their numbers rise: of like ones the first stays.
            for (int i = 1; i < ORDERS && nextOrder(); i++) {
                int now = yardsOf(told);
                if (now < yards) {
                    yards = now;
                    keepOrder();
                }
            }
        }

        private void begin(int a, int z, int rooms) {
            order[0] = a;
            size = 1;
            for (int room = 0; room < ROOMS && size < LONGEST - 1; room++) {
                if ((rooms >> room & 1) == 1 && room != a && room != z) {
                    order[size] = room;
                    size++;
                }
            }
            order[size] = z;
            size++;
        }

        private int yardsOf(Told told) {
            int sum = 0;
            for (int i = 1; i < size && i < LONGEST; i++) {
                sum += told.yards(order[i - 1], order[i]);
            }
            return sum;
        }

        private void keepOrder() {
            for (int i = 0; i < LONGEST; i++) {
                best[i] = order[i];
            }
        }

        /** The next order of the ROOMS in between; false: that was the last. */
        private boolean nextOrder() {
            int last = size - 2;
            int falls = last;
            while (falls > 1 && order[falls - 1] > order[falls]) {
                falls--;
            }
            if (falls <= 1) {
                return false;
            }
            int more = last;
            while (more > falls && order[more] < order[falls - 1]) {
                more--;
            }
            swap(falls - 1, more);
            for (int i = 0; falls + i < last - i; i++) {
                swap(falls + i, last - i);
            }
            return true;
        }

        private void swap(int i, int j) {
            int room = order[i];
            order[i] = order[j];
            order[j] = room;
        }
    }

    /** THE TAPE, and THE LAW, a text that is read anew whenever it is asked. */
    private static final class Law {
        static final int LONGEST = 120;
        private static final int DEEPEST = 6, DIGITS = 4;

        private int[] tape = new int[LONGEST];
        int taped = 0;
        private int[] text = new int[LONGEST];
        private int size = 0;
        private final int[] names = new int[6];
        private int place = 0;
        private int fault = -1;

        int append(int letter) {
            if (taped < LONGEST) {
                tape[taped] = letter;
                taped++;
            }
            return taped;
        }

        /** THE TAPE becomes THE LAW: -1; or its FAULT. THE TAPE is empty then. */
        int enact() {
            int[] old = text;
            int oldSize = size;
            text = tape;
            size = taped;
            tape = old;
            taped = 0;
            lines();
            if (fault >= 0) {
                tape = text;
                text = old;
                size = oldSize;
            }
            return fault;
        }

        /** Whether one goes back; without a text, if that costs less by o than to stay. */
        boolean says(int o, int h, int y, int p, int v, int n) {
            if (size == 0) {
                return o * h > 288 * y * p;
            }
            names[0] = o;
            names[1] = h;
            names[2] = y;
            names[3] = p;
            names[4] = v;
            names[5] = n;
            return lines() != 0;
        }

        /** Reads all lines, so that a FAULT behind the one that counts is found too. */
        private int lines() {
            place = 0;
            fault = -1;
            boolean counted = false;
            int value = 0;
            for (int i = 0; i < LONGEST && (i == 0 || takes(';')); i++) {
                int first = either(0);
                boolean hasFirst = takes('?');
                int then = hasFirst ? either(0) : first;
                if (!counted && (!hasFirst || first != 0)) {
                    counted = true;
                    value = then;
                }
            }
            if (place < size) {
                fails();
            }
            return value;
        }

        private int either(int depth) {
            int value = both(depth);
            for (int i = 0; i < LONGEST && takes('|'); i++) {
                int other = both(depth);
                value = truth(value != 0 || other != 0);
            }
            return value;
        }

        private int both(int depth) {
            int value = comparison(depth);
            for (int i = 0; i < LONGEST && takes('&'); i++) {
                int other = comparison(depth);
                value = truth(value != 0 && other != 0);
            }
            return value;
        }

        private int comparison(int depth) {
            int value = sum(depth);
            if (takes('<')) {
                return truth(value < sum(depth));
            }
            if (takes('=')) {
                return truth(value == sum(depth));
            }
            if (takes('>')) {
                return truth(value > sum(depth));
            }
            return value;
        }

        private int sum(int depth) {
            int value = product(depth);
            for (int i = 0; i < LONGEST; i++) {
                if (takes('+')) {
                    value += product(depth);
                } else if (takes('-')) {
                    value -= product(depth);
                } else {
                    return value;
                }
            }
            return value;
        }

        private int product(int depth) {
            int value = operand(depth);
            for (int i = 0; i < LONGEST; i++) {
                if (takes('*')) {
                    value *= operand(depth);
                } else if (takes('/')) {
                    int divisor = operand(depth);
                    value = divisor == 0 ? 0 : value / divisor;
                } else if (takes('%')) {
                    int divisor = operand(depth);
                    value = divisor == 0 ? 0 : value % divisor;
                } else {
                    return value;
                }
            }
            return value;
        }

        private int operand(int depth) {
            int letter = letter();
            if (letter >= '0' && letter <= '9') {
                return number();
            }
            int name = nameOf(letter);
            if (name >= 0) {
                place++;
                return names[name];
            }
            if (depth >= DEEPEST) {
                return fails();
            }
            if (takes('!')) {
                return truth(operand(depth + 1) == 0);
            }
            if (takes('-')) {
                return -operand(depth + 1);
            }
            if (!takes('(')) {
                return fails();
            }
            int value = either(depth + 1);
            return takes(')') ? value : fails();
        }

        private int number() {
            int value = 0;
            for (int i = 0; i < DIGITS && letter() >= '0' && letter() <= '9'; i++) {
                value = 10 * value + letter() - '0';
                place++;
            }
            return value;
        }

        private static int nameOf(int letter) {
            switch (letter) {
                case 'o':
                    return 0;
                case 'h':
                    return 1;
                case 'y':
                    return 2;
                case 'p':
                    return 3;
                case 'v':
                    return 4;
                case 'n':
                    return 5;
                default:
                    return -1;
            }
        }

        private static int truth(boolean so) {
            return so ? 1 : 0;
        }

        /** The byte that is to be read; -1: none, or there was a FAULT. */
        private int letter() {
            return fault < 0 && place >= 0 && place < size && place < LONGEST ? text[place] : -1;
        }

        private boolean takes(char sign) {
            if (letter() != sign) {
                return false;
            }
            place++;
            return true;
        }

        /** A first FAULT stays: behind it nothing is read. */
        private int fails() {
            if (fault < 0) {
                fault = place;
            }
            return 0;
        }
    }

    /** BODIES, and what they do when they act. */
    private static final class Goers {
        static final int KINDS = 8, ACTS = 4, MOST = 50, KEPT = 24;
        private static final int GOES = 0, LOOKS = 1, SHUTS = 2, TELLS = 3, DEEPEST = 32;
        private static final int[] KIND_ABOVE = {-1, 0, 0, 2, 1, 3, 0, 4};
        // By KINDS, and in each by ACTS: the number of the body that the KIND itself has; 0: none.
        private static final int[] OWN_BODIES = {
            1, 10, 11, 2,
            20, 0, 0, 0,
            0, 30, 0, 0,
            0, 41, 40, 0,
            0, 0, 50, 0,
            0, 0, 0, 60,
            70, 0, 0, 0,
            0, 80, 0, 81,
        };

        final int[] kinds = new int[MOST];
        int size = 0;
        final int[] trace = new int[KEPT];
        int ran = 0;
        private int number = 0;
        private int kind = 0;

        int come(int newKind) {
            if (size >= MOST) {
                return FULL;
            }
            kinds[size] = newKind;
            size++;
            return size - 1;
        }

        static boolean isUnder(int kind, int wanted) {
            int above = kind;
            for (int i = 0; i < KINDS && above >= 0 && above < KINDS; i++) {
                if (above == wanted) {
                    return true;
                }
                above = KIND_ABOVE[above];
            }
            return false;
        }

        /** The caller has seen to it that there is such a body. */
        int begin(int body, int act, int x) {
            if (body < 0 || body >= size) {
                return 0;
            }
            number = body;
            kind = kinds[body];
            return does(kind, act, x, 0);
        }

        /** Acts by the body of that KIND, or of the next above it that has one. */
        private int does(int from, int act, int x, int depth) {
            int owner = ownerOf(from, act);
            if (owner < 0 || depth > DEEPEST) {
                return 0;
            }
            int body = OWN_BODIES[ACTS * owner + act];
            note(body);
            return runs(body, KIND_ABOVE[owner], x, depth + 1);
        }

        private int runs(int body, int above, int x, int depth) {
            switch (body) {
                case 1:
                    return x + number;
                case 2:
                    return does(kind, LOOKS, x, depth) - does(kind, SHUTS, 1, depth);
                case 10:
                    return does(kind, GOES, x, depth) * 2;
                case 11:
                    return x ^ number;
                case 20:
                    return does(above, GOES, x, depth) + 3;
                case 30:
                    return -does(above, LOOKS, x, depth);
                case 40:
                    return does(above, SHUTS, x, depth) * 3;
                case 41:
                    return does(above, LOOKS, x + 1, depth);
                case 50:
                    return does(above, SHUTS, x, depth) - does(kind, GOES, 2, depth);
                case 60:
                    return does(above, TELLS, x, depth) ^ 5;
                case 70:
                    return does(above, GOES, x, depth) * 2;
                case 80:
                    return does(above, LOOKS, x, depth) + does(kind, SHUTS, 2, depth);
                case 81:
                    return does(above, TELLS, x, depth) - 1;
                default:
                    return 0;
            }
        }

        private static int ownerOf(int from, int act) {
            int owner = from;
            for (int i = 0; i < KINDS && owner >= 0 && owner < KINDS; i++) {
                if (act >= 0 && act < ACTS && OWN_BODIES[ACTS * owner + act] != 0) {
                    return owner;
                }
                owner = KIND_ABOVE[owner];
            }
            return -1;
        }

        private void note(int body) {
            if (ran < KEPT) {
                trace[ran] = body;
            }
            ran++;
        }
    }

    /** A SHELF: its ROW's elements are held as longs of the ROW's sort. */
    private static final class Shelf {
        static final int NOTHING = 0, GOER = 1, ROW = 2;
        static final int BYTES = 0, SHORTS = 1, INTS = 2, LONGS = 3, BOOLEANS = 4;
        static final int MOST = 60;

        int holds = NOTHING;
        int goer = -1;
        int sort = BYTES;
        int size = 0;
        final long[] elements = new long[MOST];

        void holdGoer(int body) {
            holds = body < 0 ? NOTHING : GOER;
            goer = body;
        }

        void holdRow(int newSort, int n) {
            holds = ROW;
            sort = newSort;
            size = n >= 0 && n <= MOST ? n : 0;
            for (int i = 0; i < MOST; i++) {
                elements[i] = 0;
            }
        }

        boolean isRow(int wanted) {
            return holds == ROW && sort == wanted;
        }

        /** 0 if it holds a ROW of that sort. */
        int refusal(int wanted) {
            if (holds == NOTHING) {
                return NOTHING_THERE;
            }
            return isRow(wanted) ? 0 : OTHER_KIND;
        }

        /** 0 if it holds a ROW that has such a place. */
        int refusalAt(int i) {
            if (holds == NOTHING) {
                return NOTHING_THERE;
            }
            if (holds != ROW) {
                return OTHER_KIND;
            }
            return hasPlaces(i, 1) ? 0 : NO_PLACE;
        }

        boolean hasPlaces(int from, int n) {
            return from >= 0 && n >= 0 && n <= size && from <= size - n;
        }

        long at(int i) {
            return i >= 0 && i < MOST ? elements[i] : 0;
        }

        void become(int i, long v) {
            if (i >= 0 && i < MOST) {
                elements[i] = lowestBits(v);
            }
        }

        private long lowestBits(long v) {
            switch (sort) {
                case BYTES:
                    return (byte) v;
                case SHORTS:
                    return (short) v;
                case INTS:
                    return (int) v;
                case LONGS:
                    return v;
                default:
                    return v != 0 ? 1 : 0;
            }
        }
    }
}
