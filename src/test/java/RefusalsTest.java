import java.util.function.Supplier;
import java.util.function.ToIntFunction;

/**
 * Every call that the document lets refuse: it answers with the refusal that is told first, and
 * changes nothing. That nothing is changed is seen by a twin that went the same way without the call.
 */
public final class RefusalsTest {
    private static final int UNKNOWN = -101, OUTSIDE = -102, STATE = -103, FULL = -104;
    private static final int MIN = Integer.MIN_VALUE, MAX = Integer.MAX_VALUE;
    private static final String FIVE = "t023,p114,s327,l512,r638;7042318051";
    private static final String THREE = "t010,p110,r110;504152";
    /** Numbers that name no one of five; of three; nothing of what is told from 0 to 8, 7, 4. */
    private static final int[] NO_FIFTH = {MIN, -1, 5, 6, 31, 32, 33, MAX};
    private static final int[] NO_THIRD = {-1, 3, 4, 32};

    private final Expect expect = new Expect("RefusalsTest");

    public static void main(String[] args) {
        RefusalsTest t = new RefusalsTest();
        t.withoutShow();
        t.letter();
        t.show();
        t.trickAsPerson();
        t.castAndDrop();
        t.fillAndMost();
        t.night();
        t.letGoAndCall();
        t.fewestAndSpare();
        t.wants();
        t.route();
        t.see();
        t.tours();
        t.restore();
        t.count();
        t.expect.end();
    }

    private void refused(String sentence, Supplier<KeptVolunteers> made, ToIntFunction<KeptVolunteers> call, int want) {
        KeptVolunteers with = made.get();
        KeptVolunteers without = made.get();
        expect.due(sentence, call.applyAsInt(with), want);
        String after = sentence + "; it changes nothing: ";
        expect.due(after + "digest()", with.digest(), without.digest());
        expect.due(after + "fault()", with.fault(), without.fault());
        expect.due(after + "restore()", with.restore(), without.restore());
        expect.due(after + "digest() of the image", with.digest(), without.digest());
    }

    /** In use: an image behind it, two gone, one called, some cast, some seen, in town 5, letters on the page. */
    private static KeptVolunteers inUse() {
        KeptVolunteers x = Expect.show(FIVE);
        x.fill();
        x.night();
        x.see(0, 0, true);
        x.image();
        x.letGo(0);
        x.letGo(3);
        x.move(false);
        x.call(0, 6);
        x.cast(0, 0);
        x.see(4, 2, false);
        x.night();
        Expect.write(x, "t0");
        return x;
    }

    private static KeptVolunteers threeInUse() {
        KeptVolunteers x = Expect.show(THREE);
        x.image();
        x.cast(0, 0);
        x.cast(1, 1);
        x.night();
        x.see(2, 1, true);
        return x;
    }

    private static KeptVolunteers nobodyKept() {
        KeptVolunteers x = Expect.show("t010,t110;5000");
        x.image();
        x.letGo(0);
        x.letGo(1);
        return x;
    }

    private static KeptVolunteers lettersAlone() {
        return Expect.page("t010,t010;");
    }

    /** An object in use on which a call was made so often. */
    private static KeptVolunteers after(int times, ToIntFunction<KeptVolunteers> call) {
        KeptVolunteers x = inUse();
        for (int i = 0; i < times; i++) {
            call.applyAsInt(x);
        }
        return x;
    }

    private void withoutShow() {
        none("trick(0, 0)", x -> x.trick(0, 0), UNKNOWN);
        none("trick(0, 9)", x -> x.trick(0, 9), UNKNOWN);
        none("as(0, 0)", x -> x.as(0, 0), UNKNOWN);
        none("as(0, 5)", x -> x.as(0, 5), UNKNOWN);
        none("person(0, 0)", x -> x.person(0, 0), UNKNOWN);
        none("person(0, 8)", x -> x.person(0, 8), UNKNOWN);
        none("cast(0, 0)", x -> x.cast(0, 0), UNKNOWN);
        none("drop(0, 0)", x -> x.drop(0, 0), UNKNOWN);
        none("fill()", x -> x.fill(), STATE);
        none("night()", x -> x.night(), STATE);
        none("move(true)", x -> x.move(true), STATE);
        none("move(false)", x -> x.move(false), STATE);
        none("letGo(0)", x -> x.letGo(0), UNKNOWN);
        none("call(0, 0)", x -> x.call(0, 0), UNKNOWN);
        none("call(0, 10)", x -> x.call(0, 10), UNKNOWN);
        none("most(0)", x -> x.most(0), STATE);
        none("most(10)", x -> x.most(10), STATE);
        none("most(1)", x -> x.most(1), OUTSIDE);
        none("fewest(0)", x -> x.fewest(0), STATE);
        none("fewest(1)", x -> x.fewest(1), STATE);
        none("fewest(2)", x -> x.fewest(2), OUTSIDE);
        none("spare()", x -> x.spare(), STATE);
        none("wants(0)", x -> x.wants(0), STATE);
        none("wants(11)", x -> x.wants(11), STATE);
        none("wants(12)", x -> x.wants(12), OUTSIDE);
        for (int people = -1; people <= 32; people++) {
            int some = people;
            none("route(" + some + ", 0)", x -> x.route(some, 0), OUTSIDE);
        }
        none("route(1, 2)", x -> x.route(1, 2), OUTSIDE);
        none("see(0, 0, true)", x -> x.see(0, 0, true), UNKNOWN);
        none("tours(1, 0, 0)", x -> x.tours(1, 0, 0), STATE);
        none("tours(40, MAX, 2)", x -> x.tours(40, MAX, 2), STATE);
        none("tours(0, 0, 0)", x -> x.tours(0, 0, 0), OUTSIDE);
        none("tours(1, -1, 0)", x -> x.tours(1, -1, 0), OUTSIDE);
        none("tours(1, 0, 3)", x -> x.tours(1, 0, 3), OUTSIDE);
        none("image()", x -> x.image(), STATE);
        none("restore()", x -> x.restore(), STATE);
        none("count(17)", x -> x.count(17), OUTSIDE);
    }

    private void none(String call, ToIntFunction<KeptVolunteers> how, int want) {
        refused("no SHOW: " + call, KeptVolunteers::new, how, want);
        refused("no SHOW, but letters: " + call, RefusalsTest::lettersAlone, how, want);
    }

    private static KeptVolunteers pageOf36() {
        return Expect.page(FIVE + "0");
    }

    private void letter() {
        for (int code : new int[] {MIN, -1, 0, 127, 128, 255, 256 + 65, MAX}) {
            refused("2 OUTSIDE: code (1 to 126): " + code, RefusalsTest::inUse, x -> x.letter(code), OUTSIDE);
            refused("2 OUTSIDE ahead of FULL: " + code, RefusalsTest::pageOf36, x -> x.letter(code), OUTSIDE);
        }
        for (int code : new int[] {1, 48, 126}) {
            refused("2 FULL: above 36: " + code, RefusalsTest::pageOf36, x -> x.letter(code), FULL);
        }
    }

    private void show() {
        String[] texts = {"", "t", "t010", "t010;00", "t010,t010", "t010,t010;", "t010,t010;0", "t010,t010;000",
            "t010,t010;06", "t010,t010;00,", "t810,t010;00", "t000,t010;00", "t050,t010;00", "x010,t010;00",
            "t010,t010;959493929190", "t010,t010,t010,t010,t010,t010;00", FIVE + "0"};
        for (String text : texts) {
            refused("5 STATE: it is none: " + text, () -> Expect.page(text), x -> x.show(), STATE);
            refused("5 STATE: it is none, in use: " + text, () -> {
                KeptVolunteers x = inUse();
                x.blank();
                Expect.write(x, text);
                return x;
            }, x -> x.show(), STATE);
        }
    }

    private void trickAsPerson() {
        for (int no : NO_FIFTH) {
            refused("6 UNKNOWN: " + no, RefusalsTest::inUse, x -> x.trick(no, 0), UNKNOWN);
            refused("6 UNKNOWN ahead of OUTSIDE: " + no, RefusalsTest::inUse, x -> x.trick(no, 9), UNKNOWN);
            refused("7 UNKNOWN: " + no, RefusalsTest::inUse, x -> x.as(no, 0), UNKNOWN);
            refused("7 UNKNOWN ahead of OUTSIDE: " + no, RefusalsTest::inUse, x -> x.as(no, 5), UNKNOWN);
            refused("8 UNKNOWN: " + no, RefusalsTest::inUse, x -> x.person(no, 0), UNKNOWN);
            refused("8 UNKNOWN ahead of OUTSIDE: " + no, RefusalsTest::inUse, x -> x.person(no, 8), UNKNOWN);
        }
        for (int no : NO_THIRD) {
            refused("6 UNKNOWN of three: " + no, RefusalsTest::threeInUse, x -> x.trick(no, 0), UNKNOWN);
            refused("7 UNKNOWN of three: " + no, RefusalsTest::threeInUse, x -> x.as(no, 0), UNKNOWN);
            refused("8 UNKNOWN of three: " + no, RefusalsTest::threeInUse, x -> x.person(no, 0), UNKNOWN);
        }
        for (int what : new int[] {MIN, -1, 9, 10, MAX}) {
            refused("6 OUTSIDE: " + what, RefusalsTest::inUse, x -> x.trick(0, what), OUTSIDE);
        }
        for (int kind : new int[] {MIN, -1, 5, 6, MAX}) {
            refused("7 OUTSIDE: " + kind, RefusalsTest::inUse, x -> x.as(4, kind), OUTSIDE);
        }
        for (int what : new int[] {MIN, -1, 8, 9, MAX}) {
            refused("8 OUTSIDE: " + what, RefusalsTest::inUse, x -> x.person(4, what), OUTSIDE);
            refused("8 OUTSIDE of a free number: " + what, RefusalsTest::inUse, x -> x.person(3, what), OUTSIDE);
        }
    }

    private void castAndDrop() {
        for (int no : NO_FIFTH) {
            refused("9 UNKNOWN: trick " + no, RefusalsTest::inUse, x -> x.cast(no, 1), UNKNOWN);
            refused("9 UNKNOWN: person " + no, RefusalsTest::inUse, x -> x.cast(1, no), UNKNOWN);
            refused("10 UNKNOWN: trick " + no, RefusalsTest::inUse, x -> x.drop(no, 0), UNKNOWN);
            refused("10 UNKNOWN: person " + no, RefusalsTest::inUse, x -> x.drop(0, no), UNKNOWN);
        }
        for (int no : NO_THIRD) {
            refused("9 UNKNOWN of three: trick " + no, RefusalsTest::threeInUse, x -> x.cast(no, 2), UNKNOWN);
            refused("9 UNKNOWN of three: person " + no, RefusalsTest::threeInUse, x -> x.cast(2, no), UNKNOWN);
            refused("10 UNKNOWN of three: trick " + no, RefusalsTest::threeInUse, x -> x.drop(no, 0), UNKNOWN);
            refused("10 UNKNOWN of three: person " + no, RefusalsTest::threeInUse, x -> x.drop(0, no), UNKNOWN);
        }
        refused("9 UNKNOWN ahead of STATE: not kept", RefusalsTest::inUse, x -> x.cast(5, 3), UNKNOWN);
        refused("9 STATE: he is not KEPT", RefusalsTest::inUse, x -> x.cast(2, 3), STATE);
        refused("9 STATE: in it already", RefusalsTest::threeInUse, x -> x.cast(1, 1), STATE);
        refused("9 STATE: a TRICK has the one it wants", RefusalsTest::threeInUse, x -> x.cast(0, 2), STATE);
        refused("9 STATE: a PAIR has the two it wants", () -> threeWith(1), x -> x.cast(1, 2), STATE);
        refused("9 STATE: a ROPE has the two it wants", () -> threeWith(2), x -> x.cast(2, 2), STATE);
        refused("9 STATE: in one that CLASHES", RefusalsTest::threeInUse, x -> x.cast(2, 1), STATE);
        refused("9 STATE: in one that CLASHES by its rest", () -> {
            KeptVolunteers x = Expect.show("l010,t110;00");
            x.cast(0, 0);
            return x;
        }, x -> x.cast(1, 0), STATE);
        refused("9 STATE: the rest CLASHES with one he is in", () -> {
            KeptVolunteers x = Expect.show("l010,t110;00");
            x.cast(1, 0);
            return x;
        }, x -> x.cast(0, 0), STATE);
        refused("10 STATE: he is in none", RefusalsTest::threeInUse, x -> x.drop(1, 2), STATE);
        refused("10 STATE: he is in another", RefusalsTest::threeInUse, x -> x.drop(2, 1), STATE);
        refused("10 STATE: his number is free", RefusalsTest::inUse, x -> x.drop(0, 3), STATE);
        refused("10 STATE: he was, and is let go", RefusalsTest::inUse, x -> x.drop(4, 3), STATE);
    }

    /** With 0 and 1 in one of the two that want two. */
    private static KeptVolunteers threeWith(int trick) {
        KeptVolunteers x = Expect.show(THREE);
        x.cast(trick, 0);
        x.cast(trick, 1);
        return x;
    }

    private void fillAndMost() {
        Supplier<KeptVolunteers> sixteen = () -> after(15, x -> x.most(0));
        expect.due("12, 17: done 16 times", sixteen.get().count(14), 16);
        refused("12 STATE: done 16 times", sixteen, x -> x.fill(), STATE);
        refused("17 STATE: done 16 times", sixteen, x -> x.most(0), STATE);
        refused("17 STATE: done 16 times", sixteen, x -> x.most(14), STATE);
        refused("12 STATE: fill() done 16 times", () -> after(15, x -> x.fill()), x -> x.fill(), STATE);
        for (int what : new int[] {MIN, -1, 1, 2, 9, 15, 16, MAX}) {
            refused("17 OUTSIDE: " + what, RefusalsTest::inUse, x -> x.most(what), OUTSIDE);
            refused("17 OUTSIDE ahead of STATE: " + what, sixteen, x -> x.most(what), OUTSIDE);
        }
    }

    private void night() {
        refused("13 FULL: there were 99", () -> after(97, x -> x.night()), x -> x.night(), FULL);
        expect.due("13: 98 are not 99", after(96, x -> x.night()).night(), 1);
    }

    private void letGoAndCall() {
        for (int no : NO_FIFTH) {
            refused("15 UNKNOWN: " + no, RefusalsTest::inUse, x -> x.letGo(no), UNKNOWN);
            refused("16 UNKNOWN: " + no, RefusalsTest::inUse, x -> x.call(no, 5), UNKNOWN);
            refused("16 UNKNOWN ahead of OUTSIDE: " + no, RefusalsTest::inUse, x -> x.call(no, 10), UNKNOWN);
        }
        for (int no : NO_THIRD) {
            refused("15 UNKNOWN of three: " + no, RefusalsTest::threeInUse, x -> x.letGo(no), UNKNOWN);
            refused("16 UNKNOWN of three: " + no, RefusalsTest::threeInUse, x -> x.call(no, 5), UNKNOWN);
        }
        refused("15 STATE: he is not KEPT", RefusalsTest::inUse, x -> x.letGo(3), STATE);
        refused("15 STATE: not KEPT, though he was from here", RefusalsTest::nobodyKept, x -> x.letGo(0), STATE);
        refused("15 STATE: from the next TOWN", RefusalsTest::threeInUse, x -> x.letGo(1), STATE);
        refused("15 STATE: from the one behind that", RefusalsTest::threeInUse, x -> x.letGo(2), STATE);
        refused("15 STATE: from TOWN 1, in TOWN 5", RefusalsTest::inUse, x -> x.letGo(2), STATE);
        refused("15 STATE: called up elsewhere", () -> after(1, x -> x.move(true)), x -> x.letGo(0), STATE);
        for (int strong : new int[] {MIN, -1, 10, 11, MAX}) {
            refused("16 OUTSIDE: strong " + strong, RefusalsTest::inUse, x -> x.call(3, strong), OUTSIDE);
            refused("16 OUTSIDE ahead of STATE: " + strong, RefusalsTest::inUse, x -> x.call(1, strong), OUTSIDE);
        }
        for (int person : new int[] {0, 1, 2, 4}) {
            refused("16 STATE: not free: " + person, RefusalsTest::inUse, x -> x.call(person, 5), STATE);
        }
    }

    private void fewestAndSpare() {
        Supplier<KeptVolunteers> six = () -> after(6, x -> x.fewest(0));
        refused("18 STATE: done 6 times", six, x -> x.fewest(0), STATE);
        refused("18 STATE: done 6 times", six, x -> x.fewest(1), STATE);
        refused("18 STATE: done 6 times, with none", () -> {
            KeptVolunteers x = nobodyKept();
            for (int i = 0; i < 6; i++) {
                x.fewest(1);
            }
            return x;
        }, x -> x.fewest(0), STATE);
        for (int what : new int[] {MIN, -1, 2, 3, MAX}) {
            refused("18 OUTSIDE: " + what, RefusalsTest::inUse, x -> x.fewest(what), OUTSIDE);
            refused("18 OUTSIDE ahead of STATE: " + what, six, x -> x.fewest(what), OUTSIDE);
        }
        refused("19 STATE: done 6 times", () -> after(6, x -> x.spare()), x -> x.spare(), STATE);
    }

    private void wants() {
        for (int hour : new int[] {MIN, -1, 12, 13, 32, MAX}) {
            refused("20 OUTSIDE: hour (0 to 11): " + hour, RefusalsTest::inUse, x -> x.wants(hour), OUTSIDE);
        }
    }

    private void route() {
        for (int people : new int[] {MIN, -1, 0, 8, 9, 31, 32, 33, 64, MAX}) {
            refused("21 OUTSIDE: people " + people, RefusalsTest::inUse, x -> x.route(people, 0), OUTSIDE);
            refused("21 OUTSIDE: people " + people, RefusalsTest::inUse, x -> x.route(people, 1), OUTSIDE);
        }
        for (int people : new int[] {-1, 0, 8, 9, 16, 32}) {
            refused("21 OUTSIDE of three: " + people, RefusalsTest::threeInUse, x -> x.route(people, 0), OUTSIDE);
        }
        for (int people = -1; people <= 4; people++) {
            int some = people;
            refused("21 OUTSIDE: nobody KEPT: " + some, RefusalsTest::nobodyKept, x -> x.route(some, 0), OUTSIDE);
        }
        for (int what : new int[] {MIN, -1, 2, 3, MAX}) {
            refused("21 OUTSIDE: what " + what, RefusalsTest::inUse, x -> x.route(1, what), OUTSIDE);
        }
    }

    private void see() {
        Supplier<KeptVolunteers> eight = () -> after(6, x -> x.see(1, 0, true));
        expect.due("22: eight are SEEN", eight.get().count(11), 8);
        for (int no : NO_FIFTH) {
            refused("22 UNKNOWN: person " + no, RefusalsTest::inUse, x -> x.see(no, 0, true), UNKNOWN);
            refused("22 UNKNOWN: trick " + no, RefusalsTest::inUse, x -> x.see(0, no, false), UNKNOWN);
            refused("22 UNKNOWN ahead of FULL: person " + no, eight, x -> x.see(no, 0, true), UNKNOWN);
            refused("22 UNKNOWN ahead of FULL: trick " + no, eight, x -> x.see(0, no, true), UNKNOWN);
        }
        for (int no : NO_THIRD) {
            refused("22 UNKNOWN of three: person " + no, RefusalsTest::threeInUse, x -> x.see(no, 0, true), UNKNOWN);
            refused("22 UNKNOWN of three: trick " + no, RefusalsTest::threeInUse, x -> x.see(0, no, true), UNKNOWN);
        }
        refused("22 FULL: 8 at most", eight, x -> x.see(2, 2, true), FULL);
        refused("22 FULL: a ROPE that tells nothing, too", eight, x -> x.see(2, 4, true), FULL);
        refused("22 FULL: what is SEEN already, too", eight, x -> x.see(1, 0, true), FULL);
    }

    private void tours() {
        for (int nights : new int[] {MIN, -1, 0, 41, 42, MAX}) {
            refused("24 OUTSIDE: nights (1 to 40): " + nights, RefusalsTest::inUse, x -> x.tours(nights, 1, 0), OUTSIDE);
        }
        for (int seed : new int[] {MIN, -2, -1}) {
            refused("24 OUTSIDE: seed (0 at least): " + seed, RefusalsTest::inUse, x -> x.tours(1, seed, 0), OUTSIDE);
        }
        for (int what : new int[] {MIN, -1, 3, 4, MAX}) {
            refused("24 OUTSIDE: what " + what, RefusalsTest::inUse, x -> x.tours(1, 1, what), OUTSIDE);
        }
    }

    private void restore() {
        refused("26 STATE: none was kept", () -> Expect.show(FIVE), x -> x.restore(), STATE);
        refused("26 STATE: there is another SHOW since", () -> anotherShow(THREE), x -> x.restore(), STATE);
        refused("26 STATE: another of the same text", () -> anotherShow(FIVE), x -> x.restore(), STATE);
    }

    private static KeptVolunteers anotherShow(String text) {
        KeptVolunteers x = inUse();
        x.blank();
        Expect.write(x, text);
        x.show();
        x.night();
        return x;
    }

    private void count() {
        for (int what : new int[] {MIN, -1, 17, 18, MAX}) {
            refused("27 OUTSIDE: " + what, RefusalsTest::inUse, x -> x.count(what), OUTSIDE);
        }
    }
}
