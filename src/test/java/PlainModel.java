import java.util.ArrayDeque;
import java.util.ArrayList;
import java.util.Arrays;
import java.util.HashMap;
import java.util.LinkedHashSet;
import java.util.List;
import java.util.Map;
import java.util.Set;
import java.util.TreeSet;
import java.util.regex.Matcher;
import java.util.regex.Pattern;

/**
 * The document once more, written as slowly and plainly as it reads, with the Java library:
 * the class is compared with it call by call. It tries out everything instead of being clever.
 */
final class PlainModel {
    static final int NONE = -1, UNKNOWN = -101, OUTSIDE = -102, STATE = -103, FULL = -104;
    private static final Pattern SHOW = Pattern.compile(
        "[tpslr][0-7][1-4][0-9](,[tpslr][0-7][1-4][0-9]){1,4};([0-9][0-5]){1,5}");

    record Trick(char kind, int hour, int hours, int need) {
        int wants() {
            return kind == 'p' || kind == 'r' ? 2 : 1;
        }

        boolean fits(int strong) {
            return kind == 'r' || (kind == 's' ? strong <= need : strong >= need);
        }

        Set<Integer> runs() {
            Set<Integer> all = new TreeSet<>();
            for (int h = hour; h < hour + hours; h++) {
                all.add(h);
            }
            return all;
        }

        Set<Integer> busy() {
            Set<Integer> all = runs();
            if (kind == 'l') {
                all.add(hour + hours);
            }
            return all;
        }

        boolean clashes(Trick other) {
            Set<Integer> both = busy();
            both.retainAll(other.busy());
            return !both.isEmpty();
        }

        boolean done(List<Integer> strongs) {
            int sum = 0;
            for (int s : strongs) {
                if (!fits(s)) {
                    return false;
                }
                sum += s;
            }
            return strongs.size() == wants() && (kind != 'r' || sum >= need);
        }
    }

    record Person(int strong, int town, int held) { }

    record Seen(int person, int trick, boolean fits) { }

    /** All that an image keeps, in values that are never changed in place. */
    static final class State {
        Map<Integer, Person> kept = new HashMap<>();
        List<Set<Integer>> cast = new ArrayList<>();
        List<Seen> seen = new ArrayList<>();
        int town, nights, moves, called, gone, done;

        State copy() {
            State s = new State();
            s.kept.putAll(kept);
            for (Set<Integer> c : cast) {
                s.cast.add(new TreeSet<>(c));
            }
            s.seen.addAll(seen);
            s.town = town;
            s.nights = nights;
            s.moves = moves;
            s.called = called;
            s.gone = gone;
            s.done = done;
            return s;
        }
    }

    private String page = "";
    private List<Trick> tricks = new ArrayList<>();
    private int numbers;
    private State state = new State();
    private State image;
    private int shows, mosts, fewests, spares;

    int letter(int code) {
        if (code < 1 || code > 126) {
            return OUTSIDE;
        }
        if (page.length() == 36) {
            return FULL;
        }
        page += (char) code;
        return page.length();
    }

    int blank() {
        int had = page.length();
        page = "";
        return had;
    }

    int fault() {
        for (int n = 1; n <= page.length(); n++) {
            Matcher m = SHOW.matcher(page.substring(0, n));
            if (!m.matches() && !m.hitEnd()) {
                return n - 1;
            }
        }
        return page.length();
    }

    int show() {
        if (!SHOW.matcher(page).matches()) {
            return STATE;
        }
        String[] parts = page.split(";");
        tricks = new ArrayList<>();
        state = new State();
        image = null;
        for (String t : parts[0].split(",")) {
            tricks.add(new Trick(t.charAt(0), t.charAt(1) - '0', t.charAt(2) - '0', t.charAt(3) - '0'));
            state.cast.add(new TreeSet<>());
        }
        numbers = parts[1].length() / 2;
        for (int i = 0; i < numbers; i++) {
            state.kept.put(i, new Person(parts[1].charAt(2 * i) - '0', parts[1].charAt(2 * i + 1) - '0', 0));
        }
        page = "";
        shows++;
        return tricks.size();
    }

    private boolean isTrick(int t) {
        return t >= 0 && t < tricks.size();
    }

    private boolean isPerson(int p) {
        return p >= 0 && p < numbers;
    }

    private static int bits(Iterable<Integer> all) {
        int b = 0;
        for (int i : all) {
            b |= 1 << i;
        }
        return b;
    }

    private List<Integer> strongsOf(Iterable<Integer> people) {
        List<Integer> all = new ArrayList<>();
        for (int p : people) {
            all.add(state.kept.get(p).strong());
        }
        return all;
    }

    private boolean doneNow(int t) {
        return tricks.get(t).done(strongsOf(state.cast.get(t)));
    }

    int trick(int t, int what) {
        if (!isTrick(t)) {
            return UNKNOWN;
        }
        Trick one = tricks.get(t);
        List<Integer> found = new ArrayList<>();
        switch (what) {
            case 0: return "tpslr".indexOf(one.kind());
            case 1: return one.hour();
            case 2: return one.hours();
            case 3: return one.need();
            case 4: return one.wants();
            case 5: return bits(state.cast.get(t));
            case 6: return doneNow(t) ? 1 : 0;
            case 7:
                state.kept.forEach((p, who) -> {
                    if (one.fits(who.strong())) {
                        found.add(p);
                    }
                });
                return bits(found);
            case 8:
                for (int i = 0; i < tricks.size(); i++) {
                    if (i != t && one.clashes(tricks.get(i))) {
                        found.add(i);
                    }
                }
                return bits(found);
            default: return OUTSIDE;
        }
    }

    int as(int t, int kind) {
        if (!isTrick(t)) {
            return UNKNOWN;
        }
        if (kind < 0 || kind > 4) {
            return OUTSIDE;
        }
        String is = switch (tricks.get(t).kind()) {
            case 't' -> "0";
            case 'p' -> "01";
            case 's' -> "02";
            case 'l' -> "03";
            default -> "014";
        };
        return is.contains("" + kind) ? t : NONE;
    }

    private List<Integer> castIn(int p) {
        List<Integer> all = new ArrayList<>();
        for (int t = 0; t < tricks.size(); t++) {
            if (state.cast.get(t).contains(p)) {
                all.add(t);
            }
        }
        return all;
    }

    private Set<Integer> strongsCanBe(int p) {
        Set<Integer> all = new TreeSet<>();
        for (int s = 0; s <= 9; s++) {
            boolean can = true;
            for (Seen one : state.seen) {
                can &= one.person() != p || tricks.get(one.trick()).fits(s) == one.fits();
            }
            if (can) {
                all.add(s);
            }
        }
        return all;
    }

    private int tryNext(int p) {
        Set<Integer> can = strongsCanBe(p);
        int best = NONE;
        int bestWorst = 100;
        for (int t = 0; t < tricks.size() && !can.isEmpty(); t++) {
            int yes = 0;
            int no = 0;
            for (int s : can) {
                if (tricks.get(t).fits(s)) {
                    yes++;
                } else {
                    no++;
                }
            }
            if (Math.max(yes, no) < bestWorst) {
                bestWorst = Math.max(yes, no);
                best = t;
            }
        }
        return best;
    }

    int person(int p, int what) {
        if (!isPerson(p)) {
            return UNKNOWN;
        }
        Person who = state.kept.get(p);
        switch (what) {
            case 0: return who == null ? NONE : who.strong();
            case 1: return who == null ? NONE : who.town();
            case 2: return who == null ? 0 : 1;
            case 3: return bits(castIn(p));
            case 4:
                Set<Integer> busy = new TreeSet<>();
                for (int t : castIn(p)) {
                    busy.addAll(tricks.get(t).busy());
                }
                return bits(busy);
            case 5: return who == null ? 0 : who.held();
            case 6: return bits(strongsCanBe(p));
            case 7: return tryNext(p);
            default: return OUTSIDE;
        }
    }

    int cast(int t, int p) {
        if (!isTrick(t) || !isPerson(p)) {
            return UNKNOWN;
        }
        Set<Integer> in = state.cast.get(t);
        if (!state.kept.containsKey(p) || in.contains(p) || in.size() == tricks.get(t).wants()) {
            return STATE;
        }
        for (int other : castIn(p)) {
            if (tricks.get(other).clashes(tricks.get(t))) {
                return STATE;
            }
        }
        in.add(p);
        return in.size();
    }

    int drop(int t, int p) {
        if (!isTrick(t) || !isPerson(p)) {
            return UNKNOWN;
        }
        return state.cast.get(t).remove(p) ? state.cast.get(t).size() : STATE;
    }

    int clear() {
        int were = 0;
        for (Set<Integer> in : state.cast) {
            were += in.size();
            in.clear();
        }
        return were;
    }

    /** The best row of sets (bits) by trick: most done, then the first by numbers. */
    private int[] bestRow(int people) {
        List<int[]> best = new ArrayList<>();
        best.add(new int[tricks.size()]);
        tryRows(new int[tricks.size()], 0, people, best);
        return best.get(0);
    }

    private void tryRows(int[] row, int t, int people, List<int[]> best) {
        if (t == tricks.size()) {
            int more = doneIn(row) - doneIn(best.get(0));
            if (more > 0 || more == 0 && Arrays.compare(row, best.get(0)) < 0) {
                best.set(0, row.clone());
            }
            return;
        }
        for (int set = 0; set <= people; set++) {
            if ((set & ~people) == 0 && (set == 0 || maySet(row, t, set))) {
                row[t] = set;
                tryRows(row, t + 1, people, best);
            }
        }
        row[t] = 0;
    }

    private boolean maySet(int[] row, int t, int set) {
        for (int i = 0; i < t; i++) {
            if ((row[i] & set) != 0 && tricks.get(i).clashes(tricks.get(t))) {
                return false;
            }
        }
        List<Integer> who = new ArrayList<>();
        for (int p = 0; p < 5; p++) {
            if ((set >> p & 1) != 0) {
                who.add(p);
            }
        }
        return tricks.get(t).done(strongsOf(who));
    }

    private static int doneIn(int[] row) {
        int done = 0;
        for (int set : row) {
            if (set != 0) {
                done++;
            }
        }
        return done;
    }

    private int keptBits() {
        return bits(state.kept.keySet());
    }

    int fill() {
        if (tricks.isEmpty() || mosts == 16) {
            return STATE;
        }
        mosts++;
        int[] row = bestRow(keptBits());
        for (int t = 0; t < row.length; t++) {
            state.cast.get(t).clear();
            for (int p = 0; p < 5; p++) {
                if ((row[t] >> p & 1) != 0) {
                    state.cast.get(t).add(p);
                }
            }
        }
        return doneIn(row);
    }

    int night() {
        if (tricks.isEmpty()) {
            return STATE;
        }
        if (state.nights == 99) {
            return FULL;
        }
        int done = 0;
        Set<Integer> holders = new LinkedHashSet<>();
        for (int t = 0; t < tricks.size(); t++) {
            if (doneNow(t)) {
                done++;
                holders.addAll(state.cast.get(t));
            }
        }
        for (int p : holders) {
            Person who = state.kept.get(p);
            state.kept.put(p, new Person(who.strong(), who.town(), who.held() + 1));
        }
        state.nights++;
        state.done += done;
        return done;
    }

    int move(boolean on) {
        if (tricks.isEmpty()) {
            return STATE;
        }
        state.town = (state.town + (on ? 1 : 5)) % 6;
        state.moves++;
        return state.town;
    }

    int letGo(int p) {
        if (!isPerson(p)) {
            return UNKNOWN;
        }
        if (!state.kept.containsKey(p) || state.kept.get(p).town() != state.town) {
            return STATE;
        }
        state.kept.remove(p);
        for (Set<Integer> in : state.cast) {
            in.remove(p);
        }
        state.gone++;
        return state.kept.size();
    }

    int call(int p, int strong) {
        if (!isPerson(p)) {
            return UNKNOWN;
        }
        if (strong < 0 || strong > 9) {
            return OUTSIDE;
        }
        if (state.kept.containsKey(p)) {
            return STATE;
        }
        state.kept.put(p, new Person(strong, state.town, 0));
        state.called++;
        return state.kept.size();
    }

    int most(int what) {
        if (what != 0 && (what < 10 || what > 14)) {
            return OUTSIDE;
        }
        if (tricks.isEmpty() || mosts == 16) {
            return STATE;
        }
        mosts++;
        int[] row = bestRow(keptBits());
        if (what == 0) {
            return doneIn(row);
        }
        return what - 10 < row.length ? row[what - 10] : 0;
    }

    int fewest(int what) {
        if (what < 0 || what > 1) {
            return OUTSIDE;
        }
        if (tricks.isEmpty() || fewests == 6) {
            return STATE;
        }
        fewests++;
        int found = NONE;
        int few = 6;
        for (int set = 0; set < 32; set++) {
            if ((set & ~keptBits()) == 0 && Integer.bitCount(set) < few && doneIn(bestRow(set)) == tricks.size()) {
                found = set;
                few = Integer.bitCount(set);
            }
        }
        return found == NONE || what == 1 ? found : few;
    }

    int spare() {
        if (tricks.isEmpty() || spares == 6) {
            return STATE;
        }
        spares++;
        int most = doneIn(bestRow(keptBits()));
        int spared = 0;
        for (int p : state.kept.keySet()) {
            if (doneIn(bestRow(keptBits() & ~(1 << p))) == most) {
                spared |= 1 << p;
            }
        }
        return spared;
    }

    int wants(int hour) {
        if (hour < 0 || hour > 11) {
            return OUTSIDE;
        }
        return tricks.isEmpty() ? STATE : wantsIn(hour);
    }

    private int wantsIn(int hour) {
        int all = 0;
        for (Trick t : tricks) {
            all += t.runs().contains(hour) ? t.wants() : 0;
        }
        return all;
    }

    int route(int people, int what) {
        if (people == 0 || (people & ~keptBits()) != 0 || what < 0 || what > 1) {
            return OUTSIDE;
        }
        int left = 0;
        for (int p = 0; p < 5; p++) {
            if ((people >> p & 1) != 0) {
                left |= 1 << state.kept.get(p).town();
            }
        }
        left &= ~(1 << state.town);
        if (left == 0) {
            return what == 0 ? 0 : NONE;
        }
        int on = 1 + movesFrom((state.town + 1) % 6, left);
        int back = 1 + movesFrom((state.town + 5) % 6, left);
        return what == 0 ? Math.min(on, back) : on <= back ? 1 : 0;
    }

    /** By going all ways at once, step by step, over towns and what is left. */
    private static int movesFrom(int town, int left) {
        ArrayDeque<int[]> next = new ArrayDeque<>();
        Set<Integer> known = new TreeSet<>();
        next.add(new int[] {town, left & ~(1 << town), 0});
        while (!next.isEmpty()) {
            int[] at = next.remove();
            if (at[1] == 0) {
                return at[2];
            }
            for (int step = 1; step <= 5; step += 4) {
                int there = (at[0] + step) % 6;
                int still = at[1] & ~(1 << there);
                if (known.add(there * 64 + still)) {
                    next.add(new int[] {there, still, at[2] + 1});
                }
            }
        }
        throw new IllegalStateException();
    }

    int see(int p, int t, boolean fits) {
        if (!isPerson(p) || !isTrick(t)) {
            return UNKNOWN;
        }
        if (state.seen.size() == 8) {
            return FULL;
        }
        state.seen.add(new Seen(p, t, fits));
        return state.seen.size();
    }

    int forget() {
        int had = state.seen.size();
        state.seen.clear();
        return had;
    }

    int tours(int nights, int seed, int what) {
        if (nights < 1 || nights > 40 || seed < 0 || what < 0 || what > 2) {
            return OUTSIDE;
        }
        if (tricks.isEmpty()) {
            return STATE;
        }
        long s = seed;
        int done = 0;
        int gone = 0;
        List<int[]> kept = new ArrayList<>();
        for (int night = 0; night < nights; night++) {
            s = (1103515245L * s + 12345L) % (1L << 31);
            if (kept.size() < 5) {
                kept.add(new int[] {(int) (s / 65536 % 10)});
            }
            List<List<int[]>> taken = new ArrayList<>();
            List<int[]> inDone = new ArrayList<>();
            for (Trick one : tricks) {
                List<int[]> mine = new ArrayList<>();
                for (int[] who : kept) {
                    boolean free = one.fits(who[0]);
                    for (int t = 0; t < taken.size(); t++) {
                        free &= !(taken.get(t).contains(who) && tricks.get(t).clashes(one));
                    }
                    if (free && mine.size() < one.wants()) {
                        mine.add(who);
                    }
                }
                taken.add(mine);
                if (one.done(mine.stream().map(who -> who[0]).toList())) {
                    done++;
                    inDone.addAll(mine);
                }
            }
            for (int[] who : kept) {
                if (!inDone.contains(who)) {
                    kept.remove(who);
                    gone++;
                    break;
                }
            }
        }
        return what == 0 ? done : what == 1 ? gone : (int) s;
    }

    int image() {
        if (tricks.isEmpty()) {
            return STATE;
        }
        image = state.copy();
        return state.nights;
    }

    int restore() {
        if (image == null) {
            return STATE;
        }
        state = image.copy();
        return state.nights;
    }

    int count(int what) {
        int found = 0;
        switch (what) {
            case 0: return tricks.size();
            case 1: return numbers;
            case 2: return state.kept.size();
            case 3:
                for (int t = 0; t < tricks.size(); t++) {
                    found += doneNow(t) ? 1 : 0;
                }
                return found;
            case 4:
                for (int hour = 0; hour <= 11; hour++) {
                    found = Math.max(found, wantsIn(hour));
                }
                return found;
            case 5: return state.nights;
            case 6: return state.done;
            case 7: return state.moves;
            case 8: return state.town;
            case 9: return state.called;
            case 10: return state.gone;
            case 11: return state.seen.size();
            case 12: return page.length();
            case 13: return shows;
            case 14: return mosts;
            case 15: return fewests;
            case 16: return spares;
            default: return OUTSIDE;
        }
    }

    long digest() {
        List<Integer> all = new ArrayList<>();
        for (int t = 0; t < tricks.size(); t++) {
            for (int what = 0; what <= 8; what++) {
                all.add(trick(t, what));
            }
        }
        for (int p = 0; p < numbers; p++) {
            for (int what = 0; what <= 7; what++) {
                all.add(person(p, what));
            }
        }
        for (int hour = 0; hour <= 11 && !tricks.isEmpty(); hour++) {
            all.add(wants(hour));
        }
        if (keptBits() != 0) {
            all.add(route(keptBits(), 0));
            all.add(route(keptBits(), 1));
        }
        page.chars().forEach(all::add);
        for (int what = 0; what <= 16; what++) {
            all.add(count(what));
        }
        long h = 1117;
        for (int one : all) {
            h = 31 * h + one;
        }
        return h;
    }
}
