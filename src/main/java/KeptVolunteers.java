import java.util.Arrays;

/** A travelling show that keeps its volunteers. The document DOC.md says what each call promises. */
public final class KeptVolunteers {
    public static final int NONE = -1, UNKNOWN = -101, OUTSIDE = -102, STATE = -103, FULL = -104;

    private static final int TRICK = 0, PAIR = 1, SAW = 2, LONG = 3, ROPE = 4, KINDS = 5;
    private static final String KIND_LETTERS = "tpslr";

    private static final int MIN_TRICKS = 2, MAX_TRICKS = 5, MAX_PEOPLE = 5, TOWNS = 6;
    private static final int STRONGEST = 9, ALL_STRONGS = 1023, LAST_HOUR = 11;
    private static final int MAX_LETTERS = 36, LAST_CODE = 126, TRICK_LETTERS = 5;
    private static final int MAX_SEEN = 8, MAX_NIGHTS = 99, MAX_TOUR_NIGHTS = 40;
    private static final int MAX_MOSTS = 16, MAX_FEWESTS = 6, MAX_SPARES = 6;
    private static final int FIRST_WHO = 10, LAST_WHO = 14, LAST_COUNT = 16;
    /** How many sets of people there are, each told by bits. */
    private static final int SETS = 32;

    private final Page page = new Page();
    private final Troupe troupe = new Troupe();
    private final Troupe picture = new Troupe();
    private final Planner planner = new Planner();
    private final Tour tour = new Tour();
    private Bill bill = new Bill(new Trick[0], 0);
    private boolean pictured;
    private int showsRead;
    private int mostsDone;
    private int fewestsDone;
    private int sparesDone;

    public KeptVolunteers() {
    }

    // ---- the show

    public int letter(int code) {
        if (code < 1 || code > LAST_CODE) {
            return OUTSIDE;
        }
        return page.put(code) ? page.size : FULL;
    }

    public int blank() {
        int had = page.size;
        page.size = 0;
        return had;
    }

    public int fault() {
        return page.firstFault();
    }

    public int show() {
        if (!page.isShow()) {
            return STATE;
        }
        bill = page.readBill();
        page.readPeople(troupe, bill.people);
        page.size = 0;
        pictured = false;
        showsRead++;
        return bill.tricks.length;
    }

    public int trick(int trick, int what) {
        if (!isTrick(trick)) {
            return UNKNOWN;
        }
        Trick one = bill.tricks[trick];
        switch (what) {
            case 0: return one.kind();
            case 1: return one.hour;
            case 2: return one.hours;
            case 3: return one.need;
            case 4: return one.crew();
            case 5: return troupe.casting[trick];
            case 6: return isDoneNow(trick) ? 1 : 0;
            case 7: return troupe.suitedFor(one);
            case 8: return bill.clashesOf(trick);
            default: return OUTSIDE;
        }
    }

    public int as(int trick, int kind) {
        if (!isTrick(trick)) {
            return UNKNOWN;
        }
        if (kind < 0 || kind >= KINDS) {
            return OUTSIDE;
        }
        return isOfKind(bill.tricks[trick], kind) ? trick : NONE;
    }

    public int person(int person, int what) {
        if (!isNumber(person)) {
            return UNKNOWN;
        }
        boolean kept = has(troupe.kept, person);
        switch (what) {
            case 0: return kept ? troupe.strong[person] : NONE;
            case 1: return kept ? troupe.town[person] : NONE;
            case 2: return kept ? 1 : 0;
            case 3: return troupe.tricksOf(person);
            case 4: return bill.busyHoursOf(troupe.tricksOf(person));
            case 5: return kept ? troupe.held[person] : 0;
            case 6: return troupe.strongsOf(person);
            case 7: return bill.trickToTry(troupe.strongsOf(person));
            default: return OUTSIDE;
        }
    }

    // ---- who is cast

    public int cast(int trick, int person) {
        if (!isTrick(trick) || !isNumber(person)) {
            return UNKNOWN;
        }
        if (!mayBeCast(trick, person)) {
            return STATE;
        }
        troupe.casting[trick] |= 1 << person;
        return Integer.bitCount(troupe.casting[trick]);
    }

    public int drop(int trick, int person) {
        if (!isTrick(trick) || !isNumber(person)) {
            return UNKNOWN;
        }
        if (!has(troupe.casting[trick], person)) {
            return STATE;
        }
        troupe.casting[trick] &= ~(1 << person);
        return Integer.bitCount(troupe.casting[trick]);
    }

    public int clear() {
        int were = 0;
        for (int i = 0; i < MAX_TRICKS; i++) {
            were += Integer.bitCount(troupe.casting[i]);
            troupe.casting[i] = 0;
        }
        return were;
    }

    public int fill() {
        if (!hasShow() || mostsDone >= MAX_MOSTS) {
            return STATE;
        }
        int done = planMost();
        for (int i = 0; i < MAX_TRICKS; i++) {
            troupe.casting[i] = planner.best[i];
        }
        return done;
    }

    public int night() {
        if (!hasShow()) {
            return STATE;
        }
        if (troupe.nights >= MAX_NIGHTS) {
            return FULL;
        }
        int holders = 0;
        int done = 0;
        for (int i = 0; i < bill.tricks.length; i++) {
            if (isDoneNow(i)) {
                done++;
                holders |= troupe.casting[i];
            }
        }
        troupe.holdRopes(holders);
        troupe.nights++;
        troupe.doneOnNights += done;
        return done;
    }

    // ---- towns, who comes and goes

    public int move(boolean on) {
        if (!hasShow()) {
            return STATE;
        }
        troupe.here = Math.floorMod(on ? troupe.here + 1 : troupe.here - 1, TOWNS);
        troupe.moves++;
        return troupe.here;
    }

    public int letGo(int person) {
        if (!isNumber(person)) {
            return UNKNOWN;
        }
        if (!has(troupe.kept, person) || troupe.town[person] != troupe.here) {
            return STATE;
        }
        troupe.leave(person);
        return Integer.bitCount(troupe.kept);
    }

    public int call(int person, int strong) {
        if (!isNumber(person)) {
            return UNKNOWN;
        }
        if (strong < 0 || strong > STRONGEST) {
            return OUTSIDE;
        }
        if (has(troupe.kept, person)) {
            return STATE;
        }
        troupe.join(person, strong);
        return Integer.bitCount(troupe.kept);
    }

    // ---- what would be

    public int most(int what) {
        if (what != 0 && (what < FIRST_WHO || what > LAST_WHO)) {
            return OUTSIDE;
        }
        if (!hasShow() || mostsDone >= MAX_MOSTS) {
            return STATE;
        }
        int done = planMost();
        return what == 0 ? done : planner.best[what - FIRST_WHO];
    }

    public int fewest(int what) {
        if (what != 0 && what != 1) {
            return OUTSIDE;
        }
        if (!hasShow() || fewestsDone >= MAX_FEWESTS) {
            return STATE;
        }
        fewestsDone++;
        planner.prepare(bill, troupe.strong);
        int few = planner.fewestOf(troupe.kept);
        return what == 1 || few == NONE ? few : Integer.bitCount(few);
    }

    public int spare() {
        if (!hasShow() || sparesDone >= MAX_SPARES) {
            return STATE;
        }
        sparesDone++;
        planner.prepare(bill, troupe.strong);
        return planner.sparedOf(troupe.kept);
    }

    public int wants(int hour) {
        if (hour < 0 || hour > LAST_HOUR) {
            return OUTSIDE;
        }
        return hasShow() ? bill.wantedIn(hour) : STATE;
    }

    public int route(int people, int what) {
        if (people == 0 || (people & ~troupe.kept) != 0 || (what != 0 && what != 1)) {
            return OUTSIDE;
        }
        int ahead = troupe.movesAhead(people);
        return what == 0 ? fewestMoves(ahead) : firstMove(ahead);
    }

    // ---- what is seen

    public int see(int person, int trick, boolean fits) {
        if (!isNumber(person) || !isTrick(trick)) {
            return UNKNOWN;
        }
        int suited = bill.tricks[trick].suitedStrongs();
        return troupe.addSeen(person, fits ? suited : ALL_STRONGS & ~suited) ? troupe.seen : FULL;
    }

    public int forget() {
        int had = troupe.seen;
        troupe.seen = 0;
        return had;
    }

    public int tours(int nights, int seed, int what) {
        if (nights < 1 || nights > MAX_TOUR_NIGHTS || seed < 0 || what < 0 || what > 2) {
            return OUTSIDE;
        }
        if (!hasShow()) {
            return STATE;
        }
        tour.go(bill, nights, seed);
        switch (what) {
            case 0: return tour.done;
            case 1: return tour.gone;
            default: return tour.seed;
        }
    }

    // ---- what is told of all

    public int image() {
        if (!hasShow()) {
            return STATE;
        }
        picture.copyFrom(troupe);
        pictured = true;
        return troupe.nights;
    }

    public int restore() {
        if (!pictured) {
            return STATE;
        }
        troupe.copyFrom(picture);
        return troupe.nights;
    }

    public int count(int what) {
        switch (what) {
            case 0: return bill.tricks.length;
            case 1: return bill.people;
            case 2: return Integer.bitCount(troupe.kept);
            case 3: return doneNow();
            case 4: return bill.bound();
            case 5: return troupe.nights;
            case 6: return troupe.doneOnNights;
            case 7: return troupe.moves;
            case 8: return troupe.here;
            case 9: return troupe.called;
            case 10: return troupe.gone;
            case 11: return troupe.seen;
            case 12: return page.size;
            case 13: return showsRead;
            case 14: return mostsDone;
            case 15: return fewestsDone;
            case 16: return sparesDone;
            default: return OUTSIDE;
        }
    }

    public long digest() {
        long h = digestOfShow(1117L);
        for (int i = 0; i < page.size; i++) {
            h = 31 * h + page.codes[i];
        }
        for (int what = 0; what <= LAST_COUNT; what++) {
            h = 31 * h + count(what);
        }
        return h;
    }

    private long digestOfShow(long start) {
        long h = start;
        for (int i = 0; i < bill.tricks.length; i++) {
            for (int what = 0; what <= 8; what++) {
                h = 31 * h + trick(i, what);
            }
        }
        for (int i = 0; i < bill.people; i++) {
            for (int what = 0; what <= 7; what++) {
                h = 31 * h + person(i, what);
            }
        }
        if (hasShow()) {
            for (int hour = 0; hour <= LAST_HOUR; hour++) {
                h = 31 * h + wants(hour);
            }
        }
        if (troupe.kept != 0) {
            h = 31 * h + route(troupe.kept, 0);
            h = 31 * h + route(troupe.kept, 1);
        }
        return h;
    }

    private boolean hasShow() {
        return bill.tricks.length > 0;
    }

    private boolean isTrick(int number) {
        return number >= 0 && number < bill.tricks.length;
    }

    private boolean isNumber(int number) {
        return number >= 0 && number < bill.people;
    }

    private boolean isDoneNow(int trick) {
        return bill.isDoneBy(trick, troupe.casting[trick], troupe.strong);
    }

    private int doneNow() {
        int done = 0;
        for (int i = 0; i < bill.tricks.length; i++) {
            if (isDoneNow(i)) {
                done++;
            }
        }
        return done;
    }

    private boolean mayBeCast(int trick, int person) {
        int inIt = troupe.casting[trick];
        return has(troupe.kept, person)
            && !has(inIt, person)
            && Integer.bitCount(inIt) < bill.tricks[trick].crew()
            && (bill.clashesOf(trick) & troupe.tricksOf(person)) == 0;
    }

    private int planMost() {
        mostsDone++;
        planner.prepare(bill, troupe.strong);
        return planner.search(troupe.kept, NONE);
    }

    private static boolean has(int set, int number) {
        return (set >>> number & 1) != 0;
    }

    private static boolean isOfKind(Trick one, int kind) {
        switch (kind) {
            case PAIR: return one instanceof Pair;
            case SAW: return one instanceof Saw;
            case LONG: return one instanceof LongTrick;
            case ROPE: return one instanceof Rope;
            default: return true;
        }
    }

    /** The towns to come through are told by how many moves on they lie, as bits. */
    private static int fewestMoves(int ahead) {
        return ahead == 1 ? 0 : Math.min(movesOnFirst(ahead), movesBackFirst(ahead));
    }

    private static int firstMove(int ahead) {
        if (ahead == 1) {
            return NONE;
        }
        return movesOnFirst(ahead) <= movesBackFirst(ahead) ? 1 : 0;
    }

    /** Goes on first, and then, if a town is left, turns once: turning twice is never shorter. */
    private static int movesOnFirst(int ahead) {
        int least = TOWNS;
        for (int on = 1; on < TOWNS; on++) {
            int back = movesBackFor(ahead, on);
            least = Math.min(least, back == 0 ? on : 2 * on + back);
        }
        return least;
    }

    private static int movesBackFirst(int ahead) {
        int least = 2 * TOWNS;
        for (int on = 0; on < TOWNS; on++) {
            int back = movesBackFor(ahead, on);
            if (back > 0) {
                least = Math.min(least, on == 0 ? back : 2 * back + on);
            }
        }
        return least;
    }

    /** How far back of the start one must come for the towns that lie beyond so many moves on. */
    private static int movesBackFor(int ahead, int on) {
        for (int far = on + 1; far < TOWNS; far++) {
            if (has(ahead, far)) {
                return TOWNS - far;
            }
        }
        return 0;
    }

    /** The letters of a text to come. A trick and the sign behind it take five places. */
    private static final class Page {
        final int[] codes = new int[MAX_LETTERS];
        int size;

        boolean put(int code) {
            if (size >= MAX_LETTERS) {
                return false;
            }
            codes[size] = code;
            size++;
            return true;
        }

        int firstFault() {
            int end = tricksEnd();
            for (int place = 0; place < size; place++) {
                boolean stands = place > end ? isOfPeople(place, end) : isOfTricks(place);
                if (!stands) {
                    return place;
                }
            }
            return size;
        }

        boolean isShow() {
            int behind = size - tricksEnd() - 1;
            return behind > 0 && behind % 2 == 0 && firstFault() == size;
        }

        /** The place of the first ';', or behind all letters if there is none. */
        int tricksEnd() {
            for (int place = 0; place < size; place++) {
                if (codes[place] == ';') {
                    return place;
                }
            }
            return size;
        }

        boolean isOfTricks(int place) {
            int tricks = place / TRICK_LETTERS + 1;
            switch (place % TRICK_LETTERS) {
                case 0: return KIND_LETTERS.indexOf((char) codes[place]) >= 0;
                case 1: return isDigit(place, 0, 7);
                case 2: return isDigit(place, 1, 4);
                case 3: return isDigit(place, 0, 9);
                default: return codes[place] == ',' ? tricks < MAX_TRICKS
                    : codes[place] == ';' && tricks >= MIN_TRICKS;
            }
        }

        boolean isOfPeople(int place, int end) {
            int behind = place - end - 1;
            return behind < 2 * MAX_PEOPLE
                && isDigit(place, 0, behind % 2 == 0 ? STRONGEST : TOWNS - 1);
        }

        boolean isDigit(int place, int least, int greatest) {
            int value = digitAt(place);
            return value >= least && value <= greatest;
        }

        int digitAt(int place) {
            return place >= 0 && place < MAX_LETTERS ? codes[place] - '0' : NONE;
        }

        /** Only for a page that is a show. */
        Bill readBill() {
            int end = tricksEnd();
            Trick[] tricks = new Trick[Math.min((end + 1) / TRICK_LETTERS, MAX_TRICKS)];
            for (int i = 0; i < tricks.length; i++) {
                tricks[i] = readTrick(i * TRICK_LETTERS);
            }
            return new Bill(tricks, Math.min((size - end - 1) / 2, MAX_PEOPLE));
        }

        Trick readTrick(int place) {
            int hour = digitAt(place + 1);
            int hours = digitAt(place + 2);
            int need = digitAt(place + 3);
            switch (KIND_LETTERS.indexOf((char) codes[place])) {
                case PAIR: return new Pair(hour, hours, need);
                case SAW: return new Saw(hour, hours, need);
                case LONG: return new LongTrick(hour, hours, need);
                case ROPE: return new Rope(hour, hours, need);
                default: return new Trick(hour, hours, need);
            }
        }

        void readPeople(Troupe troupe, int people) {
            int first = tricksEnd() + 1;
            troupe.startAnew(people);
            for (int i = 0; i < people; i++) {
                troupe.strong[i] = digitAt(first + 2 * i);
                troupe.town[i] = digitAt(first + 2 * i + 1);
            }
        }
    }

    private static class Trick {
        final int hour;
        final int hours;
        final int need;

        Trick(int hour, int hours, int need) {
            this.hour = hour;
            this.hours = hours;
            this.need = need;
        }

        int kind() {
            return TRICK;
        }

        int crew() {
            return 1;
        }

        int restHours() {
            return 0;
        }

        boolean suits(int strong) {
            return strong >= need;
        }

        /** What is asked of all in it together, besides that it suits each. */
        boolean holdsWith(int together) {
            return true;
        }

        final int runningHours() {
            return ((1 << hours) - 1) << hour;
        }

        final int busyHours() {
            return ((1 << (hours + restHours())) - 1) << hour;
        }

        final int suitedStrongs() {
            int suited = 0;
            for (int strong = 0; strong <= STRONGEST; strong++) {
                if (suits(strong)) {
                    suited |= 1 << strong;
                }
            }
            return suited;
        }
    }

    private static class Pair extends Trick {
        Pair(int hour, int hours, int need) {
            super(hour, hours, need);
        }

        int kind() {
            return PAIR;
        }

        final int crew() {
            return 2;
        }
    }

    private static final class Saw extends Trick {
        Saw(int hour, int hours, int need) {
            super(hour, hours, need);
        }

        int kind() {
            return SAW;
        }

        boolean suits(int strong) {
            return strong <= need;
        }
    }

    private static final class LongTrick extends Trick {
        LongTrick(int hour, int hours, int need) {
            super(hour, hours, need);
        }

        int kind() {
            return LONG;
        }

        int restHours() {
            return 1;
        }
    }

    private static final class Rope extends Pair {
        Rope(int hour, int hours, int need) {
            super(hour, hours, need);
        }

        int kind() {
            return ROPE;
        }

        boolean suits(int strong) {
            return true;
        }

        boolean holdsWith(int together) {
            return together >= need;
        }
    }

    /** The show as it was read: nothing in it changes. Without a show it has no tricks. */
    private static final class Bill {
        final Trick[] tricks;
        final int people;

        Bill(Trick[] tricks, int people) {
            this.tricks = tricks;
            this.people = people;
        }

        int clashesOf(int trick) {
            int clashes = 0;
            for (int i = 0; i < tricks.length; i++) {
                if (i != trick && (tricks[i].busyHours() & tricks[trick].busyHours()) != 0) {
                    clashes |= 1 << i;
                }
            }
            return clashes;
        }

        boolean isDoneBy(int trick, int set, int[] strong) {
            Trick one = tricks[trick];
            if (Integer.bitCount(set) != one.crew()) {
                return false;
            }
            int together = 0;
            for (int i = 0; i < strong.length; i++) {
                if (has(set, i)) {
                    if (!one.suits(strong[i])) {
                        return false;
                    }
                    together += strong[i];
                }
            }
            return one.holdsWith(together);
        }

        int busyHoursOf(int trickSet) {
            int busy = 0;
            for (int i = 0; i < tricks.length; i++) {
                if (has(trickSet, i)) {
                    busy |= tricks[i].busyHours();
                }
            }
            return busy;
        }

        int wantedIn(int hour) {
            int wanted = 0;
            for (int i = 0; i < tricks.length; i++) {
                if (has(tricks[i].runningHours(), hour)) {
                    wanted += tricks[i].crew();
                }
            }
            return wanted;
        }

        int bound() {
            int greatest = 0;
            for (int hour = 0; hour <= LAST_HOUR; hour++) {
                greatest = Math.max(greatest, wantedIn(hour));
            }
            return greatest;
        }

        int trickToTry(int strongs) {
            if (strongs == 0) {
                return NONE;
            }
            int chosen = NONE;
            int fewestLeft = STRONGEST + 2;
            for (int i = 0; i < tricks.length; i++) {
                int suited = tricks[i].suitedStrongs();
                int left = Math.max(Integer.bitCount(strongs & suited), Integer.bitCount(strongs & ~suited));
                if (left < fewestLeft) {
                    fewestLeft = left;
                    chosen = i;
                }
            }
            return chosen;
        }
    }

    /** All that an image keeps. What is seen is held by the strongs that it leaves to one. */
    private static final class Troupe {
        final int[] strong = new int[MAX_PEOPLE];
        final int[] town = new int[MAX_PEOPLE];
        final int[] held = new int[MAX_PEOPLE];
        final int[] casting = new int[MAX_TRICKS];
        final int[] seenOf = new int[MAX_SEEN];
        final int[] seenStrongs = new int[MAX_SEEN];
        int kept;
        int here;
        int nights;
        int doneOnNights;
        int moves;
        int called;
        int gone;
        int seen;

        void startAnew(int people) {
            Arrays.fill(held, 0);
            Arrays.fill(casting, 0);
            kept = (1 << people) - 1;
            here = 0;
            nights = 0;
            doneOnNights = 0;
            moves = 0;
            called = 0;
            gone = 0;
            seen = 0;
        }

        void copyFrom(Troupe other) {
            System.arraycopy(other.strong, 0, strong, 0, MAX_PEOPLE);
            System.arraycopy(other.town, 0, town, 0, MAX_PEOPLE);
            System.arraycopy(other.held, 0, held, 0, MAX_PEOPLE);
            System.arraycopy(other.casting, 0, casting, 0, MAX_TRICKS);
            System.arraycopy(other.seenOf, 0, seenOf, 0, MAX_SEEN);
            System.arraycopy(other.seenStrongs, 0, seenStrongs, 0, MAX_SEEN);
            kept = other.kept;
            here = other.here;
            nights = other.nights;
            doneOnNights = other.doneOnNights;
            moves = other.moves;
            called = other.called;
            gone = other.gone;
            seen = other.seen;
        }

        int tricksOf(int person) {
            int in = 0;
            for (int i = 0; i < MAX_TRICKS; i++) {
                if (has(casting[i], person)) {
                    in |= 1 << i;
                }
            }
            return in;
        }

        int suitedFor(Trick one) {
            int suited = 0;
            for (int i = 0; i < MAX_PEOPLE; i++) {
                if (has(kept, i) && one.suits(strong[i])) {
                    suited |= 1 << i;
                }
            }
            return suited;
        }

        void holdRopes(int holders) {
            for (int i = 0; i < MAX_PEOPLE; i++) {
                if (has(holders, i)) {
                    held[i]++;
                }
            }
        }

        void leave(int person) {
            kept &= ~(1 << person);
            for (int i = 0; i < MAX_TRICKS; i++) {
                casting[i] &= ~(1 << person);
            }
            gone++;
        }

        void join(int person, int howStrong) {
            kept |= 1 << person;
            strong[person] = howStrong;
            town[person] = here;
            held[person] = 0;
            called++;
        }

        /** How many moves on from here the towns of these people lie, as bits. */
        int movesAhead(int people) {
            int ahead = 0;
            for (int i = 0; i < MAX_PEOPLE; i++) {
                if (has(people, i)) {
                    ahead |= 1 << Math.floorMod(town[i] - here, TOWNS);
                }
            }
            return ahead;
        }

        boolean addSeen(int person, int strongs) {
            if (seen >= MAX_SEEN) {
                return false;
            }
            seenOf[seen] = person;
            seenStrongs[seen] = strongs;
            seen++;
            return true;
        }

        int strongsOf(int person) {
            int strongs = ALL_STRONGS;
            for (int i = 0; i < seen; i++) {
                if (seenOf[i] == person) {
                    strongs &= seenStrongs[i];
                }
            }
            return strongs;
        }
    }

    /**
     * Looks for who could do which tricks. A set of people is a number below 32, so that
     * many sets fit into one int, a bit each: a trick's ways are the sets that do it.
     */
    private static final class Planner {
        final int[] best = new int[MAX_TRICKS];
        private final int[] chosen = new int[MAX_TRICKS];
        private final int[] ways = new int[MAX_TRICKS];
        private final int[] clashes = new int[MAX_TRICKS];
        private final int[] apart = new int[SETS];
        private int tricks;
        private int away;
        private int bestDone;

        Planner() {
            for (int set = 0; set < SETS; set++) {
                for (int other = 0; other < SETS; other++) {
                    if ((set & other) == 0) {
                        apart[set] |= 1 << other;
                    }
                }
            }
        }

        void prepare(Bill bill, int[] strong) {
            tricks = Math.min(bill.tricks.length, MAX_TRICKS);
            for (int i = 0; i < tricks; i++) {
                clashes[i] = bill.clashesOf(i);
                ways[i] = 0;
                for (int set = 1; set < SETS; set++) {
                    if (bill.isDoneBy(i, set, strong)) {
                        ways[i] |= 1 << set;
                    }
                }
            }
        }

        /**
         * How many tricks these people can do at most; the floor, if that is no more.
         * Sets are gone through by number, so the first that is found is the first of like ones.
         */
        int search(int people, int floor) {
            away = (SETS - 1) & ~people;
            bestDone = floor;
            Arrays.fill(best, 0);
            choose(0, 0);
            return bestDone;
        }

        private void choose(int trick, int done) {
            if (done + stillOpen(trick) <= bestDone) {
                return;
            }
            if (trick >= tricks) {
                bestDone = done;
                System.arraycopy(chosen, 0, best, 0, tricks);
                return;
            }
            int open = openWays(trick, trick);
            if (open == 0 || hindersLater(trick)) {
                chosen[trick] = 0;
                choose(trick + 1, done);
            }
            for (int set = 1; set < SETS; set++) {
                if (has(open, set)) {
                    chosen[trick] = set;
                    choose(trick + 1, done + 1);
                    if (!hindersLater(trick)) {
                        return;
                    }
                }
            }
        }

        /** Where it does not, to do the trick by the first way is never worse than all else. */
        private boolean hindersLater(int trick) {
            return clashes[trick] >>> (trick + 1) != 0;
        }

        /** How many tricks from this one on could be done, each looked at alone. */
        private int stillOpen(int from) {
            int open = 0;
            for (int i = from; i < tricks; i++) {
                if (openWays(i, from) != 0) {
                    open++;
                }
            }
            return open;
        }

        /** The ways of a trick without those who are away, or chosen for one that clashes. */
        private int openWays(int trick, int chosenTricks) {
            int busy = away;
            for (int i = 0; i < chosenTricks; i++) {
                if (has(clashes[trick], i)) {
                    busy |= chosen[i];
                }
            }
            return ways[trick] & apart[busy];
        }

        /** The least of the smallest sets that can do all tricks. */
        int fewestOf(int kept) {
            if (search(kept, tricks - 1) < tricks) {
                return NONE;
            }
            for (int size = 1; size <= MAX_PEOPLE; size++) {
                for (int set = 1; set < SETS; set++) {
                    boolean fitting = (set & ~kept) == 0 && Integer.bitCount(set) == size;
                    if (fitting && search(set, tricks - 1) >= tricks) {
                        return set;
                    }
                }
            }
            return NONE;
        }

        int sparedOf(int kept) {
            int doable = search(kept, NONE);
            int spared = 0;
            for (int i = 0; i < MAX_PEOPLE; i++) {
                if (has(kept, i) && search(kept & ~(1 << i), doable - 1) >= doable) {
                    spared |= 1 << i;
                }
            }
            return spared;
        }
    }

    /** A tour as it would be; those kept stand in a line in the order in which they came. */
    private static final class Tour {
        private final int[] line = new int[MAX_PEOPLE];
        private final int[] taken = new int[MAX_TRICKS];
        private int size;
        int done;
        int gone;
        int seed;

        void go(Bill bill, int nights, int firstSeed) {
            size = 0;
            done = 0;
            gone = 0;
            seed = firstSeed;
            for (int i = 0; i < nights; i++) {
                callUp(drawStrong());
                sendHome(play(bill));
            }
        }

        private int drawStrong() {
            seed = (int) ((1103515245L * seed + 12345L) & 0x7fffffffL);
            return seed / 65536 % (STRONGEST + 1);
        }

        private void callUp(int strong) {
            if (size < MAX_PEOPLE) {
                line[size] = strong;
                size++;
            }
        }

        /** Who of the line was in a trick that was done, as bits. */
        private int play(Bill bill) {
            int inDone = 0;
            int tricks = Math.min(bill.tricks.length, MAX_TRICKS);
            for (int i = 0; i < tricks; i++) {
                taken[i] = take(bill.tricks[i], busyFor(bill.clashesOf(i), i));
                if (bill.isDoneBy(i, taken[i], line)) {
                    done++;
                    inDone |= taken[i];
                }
            }
            return inDone;
        }

        private int busyFor(int clashes, int trick) {
            int busy = 0;
            for (int i = 0; i < trick; i++) {
                if (has(clashes, i)) {
                    busy |= taken[i];
                }
            }
            return busy;
        }

        private int take(Trick one, int busy) {
            int set = 0;
            int wanted = one.crew();
            for (int i = 0; i < size && wanted > 0; i++) {
                if (!has(busy, i) && one.suits(line[i])) {
                    set |= 1 << i;
                    wanted--;
                }
            }
            return set;
        }

        private void sendHome(int inDone) {
            int first = 0;
            while (first < size && has(inDone, first)) {
                first++;
            }
            if (first < size) {
                for (int i = first + 1; i < size; i++) {
                    line[i - 1] = line[i];
                }
                size--;
                gone++;
            }
        }
    }
}
