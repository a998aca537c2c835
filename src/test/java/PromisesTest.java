/** Each promise of the document by its number, with answers worked out by hand. */
public final class PromisesTest {
    private static final int NONE = -1, UNKNOWN = -101, OUTSIDE = -102, STATE = -103, FULL = -104;
    private static final int MIN = Integer.MIN_VALUE, MAX = Integer.MAX_VALUE;

    /**
     * Trick 0 in hours 0, 1; 1 (a pair) in 1; 2 (a saw) in 3, 4; 3 (long) in 5, rest in 6; 4 (a rope) in 6 to 8.
     * People: 7 from 0, 4 from 2, 3 from 1, 8 from 0, 5 from 1.
     */
    private static final String FIVE = "t023,p114,s327,l512,r638;7042318051";
    private static final String LEAST = "t010,t010;00";
    /** All five at once. */
    private static final String ROPES = "r749,r749,r749,r749,r749;9192939495";

    private final Expect expect = new Expect("PromisesTest");
    private KeptVolunteers x = new KeptVolunteers();

    public static void main(String[] args) {
        PromisesTest t = new PromisesTest();
        t.newObject();
        t.letter();
        t.blank();
        t.fault();
        t.show();
        t.showForgetsAll();
        t.trick();
        t.as();
        t.person();
        t.cast();
        t.dropAndClear();
        t.fill();
        t.night();
        t.move();
        t.letGo();
        t.call();
        t.most();
        t.fewest();
        t.spare();
        t.wants();
        t.route();
        t.see();
        t.tryNext();
        t.forget();
        t.tours();
        t.image();
        t.restore();
        t.count();
        t.digest();
        t.refusalsChangeNothing();
        t.exampleOfReadme();
        t.expect.end();
    }

    private void due(String call, long got, long want) {
        expect.due(call, got, want);
    }

    private void newObject() {
        x = new KeptVolunteers();
        for (int what = 0; what <= 16; what++) {
            due("1: count(" + what + ")", x.count(what), 0);
        }
        due("1: fault()", x.fault(), 0);
        due("1: blank()", x.blank(), 0);
        due("1: show()", x.show(), STATE);
        due("1: trick(0, 0)", x.trick(0, 0), UNKNOWN);
        due("1: as(0, 0)", x.as(0, 0), UNKNOWN);
        due("1: person(0, 0)", x.person(0, 0), UNKNOWN);
        due("1: cast(0, 0)", x.cast(0, 0), UNKNOWN);
        due("1: drop(0, 0)", x.drop(0, 0), UNKNOWN);
        due("1: clear()", x.clear(), 0);
        due("1: fill()", x.fill(), STATE);
        due("1: night()", x.night(), STATE);
        due("1: move(true)", x.move(true), STATE);
        due("1: letGo(0)", x.letGo(0), UNKNOWN);
        due("1: call(0, 0)", x.call(0, 0), UNKNOWN);
        due("1: most(0)", x.most(0), STATE);
        due("1: most(1)", x.most(1), OUTSIDE);
        due("1: fewest(0)", x.fewest(0), STATE);
        due("1: fewest(2)", x.fewest(2), OUTSIDE);
        due("1: spare()", x.spare(), STATE);
        due("1: wants(0)", x.wants(0), STATE);
        due("1: wants(12)", x.wants(12), OUTSIDE);
        due("1: route(1, 0)", x.route(1, 0), OUTSIDE);
        due("1: route(0, 0)", x.route(0, 0), OUTSIDE);
        due("1: see(0, 0, true)", x.see(0, 0, true), UNKNOWN);
        due("1: forget()", x.forget(), 0);
        due("1: tours(1, 0, 0)", x.tours(1, 0, 0), STATE);
        due("1: tours(0, 0, 0)", x.tours(0, 0, 0), OUTSIDE);
        due("1: image()", x.image(), STATE);
        due("1: restore()", x.restore(), STATE);
    }

    private void letter() {
        x = new KeptVolunteers();
        due("2: letter(0)", x.letter(0), OUTSIDE);
        due("2: letter(-1)", x.letter(-1), OUTSIDE);
        due("2: letter(127)", x.letter(127), OUTSIDE);
        due("2: letter(MIN)", x.letter(MIN), OUTSIDE);
        due("2: letter(MAX)", x.letter(MAX), OUTSIDE);
        due("2: letter(1)", x.letter(1), 1);
        due("2: letter(126)", x.letter(126), 2);
        for (int i = 3; i <= 36; i++) {
            due("2: letter(65)", x.letter(65), i);
        }
        due("2: letter(65), full", x.letter(65), FULL);
        due("2: letter(0), full", x.letter(0), OUTSIDE);
        due("2: count(12)", x.count(12), 36);
    }

    private void blank() {
        due("3: blank()", x.blank(), 36);
        due("3: blank() again", x.blank(), 0);
        due("3: letter(116)", x.letter(116), 1);
        due("3: fault()", x.fault(), 1);
        due("3: blank()", x.blank(), 1);
        due("3: count(12)", x.count(12), 0);
    }

    private void faultOf(String text, int want) {
        due("4: fault() of " + text, Expect.page(text).fault(), want);
    }

    private void fault() {
        faultOf("", 0);
        faultOf("x", 0);
        faultOf("T", 0);
        faultOf("0", 0);
        faultOf(";", 0);
        faultOf(",", 0);
        for (char kind : "tpslr".toCharArray()) {
            faultOf(kind + "74", 3);
        }
        faultOf("t7", 2);
        faultOf("t8", 1);
        faultOf("t/", 1);
        faultOf("t00", 2);
        faultOf("t05", 2);
        faultOf("t01:", 3);
        faultOf("t010", 4);
        faultOf("t010;", 4);
        faultOf("t010t", 4);
        faultOf("t010,", 5);
        faultOf("t010,;", 5);
        faultOf("t010,,", 5);
        faultOf("t010,t010", 9);
        faultOf("t010,t010;", 10);
        faultOf("t010,t010;;", 10);
        faultOf("t010,t010;t", 10);
        faultOf("t010,t010;:", 10);
        faultOf("t010,t010;05", 12);
        faultOf("t010,t010;06", 11);
        faultOf("t010,t010;00,", 12);
        faultOf("t010,t010;9594939291", 20);
        faultOf("t010,t010;95949392910", 20);
        faultOf("t010,t010,t010,t010,t010", 24);
        faultOf("t010,t010,t010,t010,t010,", 24);
        faultOf("t010,t010,t010,t010,t010;", 25);
        faultOf(FIVE, 35);
        faultOf(FIVE + "0", 35);
        faultOf("t8;;;x", 1);
        due("4: fault() twice", Expect.page(FIVE).fault() + Expect.page(FIVE).fault(), 70);
    }

    private void noShow(String text) {
        KeptVolunteers one = Expect.page(text);
        due("5: show() of " + text, one.show(), STATE);
        due("5: the page stays", one.count(12), text.length());
        due("5: none read", one.count(13), 0);
    }

    private void show() {
        noShow("");
        noShow("t010");
        noShow("t010,t010");
        noShow("t010,t010;");
        noShow("t010,t010;0");
        noShow("t010,t010;000");
        noShow("t010,t010;06");
        noShow("t010;00");
        noShow("t010,t010;95949392910");
        noShow(" t010,t010;00");
        noShow(FIVE + " ");
        x = Expect.page(LEAST);
        due("5: show() of the least", x.show(), 2);
        due("5: the page is empty", x.count(12), 0);
        due("5: show() of an empty page", x.show(), STATE);
        due("5: the show is there still", x.count(0), 2);
        x = Expect.page(FIVE);
        due("5: show() of five", x.show(), 5);
        due("5: read", x.count(13), 1);
        due("5: all are kept", x.count(2), 5);
        due("5: in town 0", x.count(8), 0);
        due("5: nobody is cast", x.clear(), 0);
    }

    private void showForgetsAll() {
        x = Expect.show(FIVE);
        x.fill();
        x.most(0);
        x.fewest(0);
        x.spare();
        x.night();
        x.see(0, 0, false);
        x.letGo(0);
        x.move(true);
        x.call(0, 9);
        x.image();
        Expect.write(x, FIVE);
        due("5: show() again", x.show(), 5);
        for (int what = 5; what <= 12; what++) {
            due("5: count(" + what + ") is gone", x.count(what), 0);
        }
        due("5: two were read", x.count(13), 2);
        due("5: strong as told", x.person(0, 0), 7);
        due("5: town as told", x.person(0, 1), 0);
        due("5: held none", x.person(3, 5), 0);
        due("5: nothing seen", x.person(0, 6), 1023);
        due("5: nobody cast", x.trick(4, 5), 0);
        due("5: the image is gone", x.restore(), STATE);
        due("5: most() and fill() were done all the same", x.count(14), 2);
        due("5: so was fewest()", x.count(15), 1);
        due("5: so was spare()", x.count(16), 1);
        Expect.write(x, LEAST);
        x.show();
        due("5: fewer people", x.person(1, 0), UNKNOWN);
        due("5: fewer tricks", x.trick(2, 0), UNKNOWN);
        due("5: who is kept", x.count(2), 1);
    }

    private void tricks(int what, int... want) {
        for (int i = 0; i < want.length; i++) {
            due("6: trick(" + i + ", " + what + ")", x.trick(i, what), want[i]);
        }
    }

    private void trick() {
        x = Expect.show(FIVE);
        tricks(0, 0, 1, 2, 3, 4);
        tricks(1, 0, 1, 3, 5, 6);
        tricks(2, 2, 1, 2, 1, 3);
        tricks(3, 3, 4, 7, 2, 8);
        tricks(4, 1, 2, 1, 1, 2);
        tricks(5, 0, 0, 0, 0, 0);
        tricks(6, 0, 0, 0, 0, 0);
        tricks(7, 31, 27, 23, 31, 31);
        tricks(8, 2, 1, 0, 16, 8);
        x.cast(1, 0);
        x.cast(1, 2);
        x.cast(2, 3);
        x.cast(4, 2);
        x.cast(4, 4);
        tricks(5, 0, 5, 8, 0, 20);
        due("6: who is in it does not fit", x.trick(1, 6), 0);
        due("6: too strong for the saw", x.trick(2, 6), 0);
        due("6: 3 and 5 together hold 8", x.trick(4, 6), 1);
        x.letGo(0);
        tricks(7, 30, 26, 22, 30, 30);
        due("6: he is gone", x.trick(1, 5), 4);
        due("6: trick(-1, 0)", x.trick(-1, 0), UNKNOWN);
        due("6: trick(5, 0)", x.trick(5, 0), UNKNOWN);
        due("6: trick(5, 9)", x.trick(5, 9), UNKNOWN);
        due("6: trick(MIN, 0)", x.trick(MIN, 0), UNKNOWN);
        due("6: trick(MAX, 0)", x.trick(MAX, 0), UNKNOWN);
        due("6: trick(4, 9)", x.trick(4, 9), OUTSIDE);
        due("6: trick(0, -1)", x.trick(0, -1), OUTSIDE);
        due("6: trick(0, MIN)", x.trick(0, MIN), OUTSIDE);
        edgesOfDone();
        edgesOfClash();
    }

    private void edgesOfDone() {
        x = Expect.show("t015,s115,p215,r319;5040604060");
        x.cast(0, 0);
        due("6: as strong as its need", x.trick(0, 6), 1);
        x.drop(0, 0);
        x.cast(0, 1);
        due("6: weaker than its need", x.trick(0, 6), 0);
        x.cast(1, 0);
        due("6: as strong as a saw's need", x.trick(1, 6), 1);
        x.drop(1, 0);
        x.cast(1, 2);
        due("6: stronger than a saw's need", x.trick(1, 6), 0);
        x.cast(2, 2);
        due("6: a pair with one", x.trick(2, 6), 0);
        x.cast(2, 0);
        due("6: a pair with two", x.trick(2, 6), 1);
        x.drop(2, 0);
        x.cast(2, 1);
        due("6: a pair with one who does not fit", x.trick(2, 6), 0);
        x.cast(3, 0);
        due("6: a rope with one", x.trick(3, 6), 0);
        x.cast(3, 1);
        due("6: 5 and 4 hold 9", x.trick(3, 6), 1);
        x.drop(3, 0);
        x.cast(3, 3);
        due("6: 4 and 4 do not", x.trick(3, 6), 0);
    }

    private void edgesOfClash() {
        x = Expect.show("t010,t110,l210,t310,t410;00");
        tricks(8, 0, 0, 8, 4, 0);
        x = Expect.show("l740,t740,l110,l210,l310;00");
        tricks(8, 2, 1, 8, 20, 8);
        x.cast(0, 0);
        due("6: busy in 7 to 11", x.person(0, 4), 0xf80);
    }

    private void as() {
        x = Expect.show(FIVE);
        int[][] want = {{0, NONE, NONE, NONE, NONE}, {1, 1, NONE, NONE, NONE}, {2, NONE, 2, NONE, NONE},
            {3, NONE, NONE, 3, NONE}, {4, 4, NONE, NONE, 4}};
        for (int i = 0; i < 5; i++) {
            for (int kind = 0; kind < 5; kind++) {
                due("7: as(" + i + ", " + kind + ")", x.as(i, kind), want[i][kind]);
            }
        }
        due("7: as(0, 5)", x.as(0, 5), OUTSIDE);
        due("7: as(0, -1)", x.as(0, -1), OUTSIDE);
        due("7: as(5, 0)", x.as(5, 0), UNKNOWN);
        due("7: as(-1, 5)", x.as(-1, 5), UNKNOWN);
        due("7: as(MAX, MIN)", x.as(MAX, MIN), UNKNOWN);
    }

    private void person() {
        x = Expect.show(FIVE);
        int[][] told = {{7, 0}, {4, 2}, {3, 1}, {8, 0}, {5, 1}};
        for (int i = 0; i < 5; i++) {
            due("8: strong of " + i, x.person(i, 0), told[i][0]);
            due("8: town of " + i, x.person(i, 1), told[i][1]);
            due("8: kept " + i, x.person(i, 2), 1);
            due("8: held by " + i, x.person(i, 5), 0);
        }
        x.cast(0, 3);
        x.cast(3, 3);
        due("8: in tricks", x.person(3, 3), 9);
        due("8: busy, with the rest", x.person(3, 4), 3 | 3 << 5);
        x.night();
        due("8: once for all tricks", x.person(3, 5), 1);
        x.letGo(3);
        int[] free = {NONE, NONE, 0, 0, 0, 0, 1023};
        for (int what = 0; what < free.length; what++) {
            due("8: free, person(3, " + what + ")", x.person(3, what), free[what]);
        }
        x.call(3, 1);
        due("8: a new one held none", x.person(3, 5), 0);
        due("8: person(5, 0)", x.person(5, 0), UNKNOWN);
        due("8: person(-1, 0)", x.person(-1, 0), UNKNOWN);
        due("8: person(-1, 8)", x.person(-1, 8), UNKNOWN);
        due("8: person(MIN, 0)", x.person(MIN, 0), UNKNOWN);
        due("8: person(0, 8)", x.person(0, 8), OUTSIDE);
        due("8: person(0, -1)", x.person(0, -1), OUTSIDE);
        due("8: one person", Expect.show(LEAST).person(1, 0), UNKNOWN);
    }

    private void cast() {
        x = Expect.show(FIVE);
        due("9: cast(1, 0)", x.cast(1, 0), 1);
        due("9: in it already", x.cast(1, 0), STATE);
        due("9: who does not fit", x.cast(1, 2), 2);
        due("9: it has as many as it wants", x.cast(1, 3), STATE);
        due("9: in one that clashes", x.cast(0, 0), STATE);
        due("9: another", x.cast(0, 1), 1);
        due("9: the rest clashes", x.cast(3, 4) + 10 * x.cast(4, 4), 1 + 10 * STATE);
        due("9: no clash", x.cast(2, 4), 1);
        x.letGo(3);
        due("9: not kept", x.cast(4, 3), STATE);
        due("9: cast(5, 0)", x.cast(5, 0), UNKNOWN);
        due("9: cast(0, 5)", x.cast(0, 5), UNKNOWN);
        due("9: cast(-1, 0)", x.cast(-1, 0), UNKNOWN);
        due("9: cast(0, -1)", x.cast(0, -1), UNKNOWN);
        due("9: cast(MIN, MAX)", x.cast(MIN, MAX), UNKNOWN);
        due("9: all that are cast", x.clear(), 5);
    }

    private void dropAndClear() {
        x = Expect.show(FIVE);
        x.cast(1, 0);
        x.cast(1, 4);
        due("10: drop(1, 0)", x.drop(1, 0), 1);
        due("10: not in it", x.drop(1, 0), STATE);
        due("10: in another", x.drop(0, 4), STATE);
        due("10: who is left", x.trick(1, 5), 16);
        due("10: drop(1, 4)", x.drop(1, 4), 0);
        due("10: drop(5, 0)", x.drop(5, 0), UNKNOWN);
        due("10: drop(0, 5)", x.drop(0, 5), UNKNOWN);
        due("10: drop(-1, -1)", x.drop(-1, -1), UNKNOWN);
        due("10: drop(MAX, MIN)", x.drop(MAX, MIN), UNKNOWN);
        x.cast(0, 0);
        x.cast(2, 0);
        x.cast(4, 1);
        due("11: in two tricks: two", x.clear(), 3);
        due("11: nobody is", x.clear(), 0);
        due("11: in none", x.person(0, 3), 0);
    }

    private void fill() {
        x = Expect.show(FIVE);
        x.cast(0, 4);
        due("12: fill()", x.fill(), 5);
        // 0 is busy for the pair, and 2 too weak; 0 rests when the rope begins, and 4 and 3 do not hold it
        int[] want = {1, 10, 1, 1, 10};
        for (int i = 0; i < 5; i++) {
            due("12: who is in trick " + i, x.trick(i, 5), want[i]);
        }
        due("12: done now", x.count(3), 5);
        for (int i = 2; i <= 16; i++) {
            due("12: fill() " + i, x.fill(), 5);
        }
        x.clear();
        due("12: fill() 17", x.fill(), STATE);
        due("12: refused, nobody cast", x.count(3), 0);
        due("12: no most() then", x.most(0), STATE);
        due("12: 16", x.count(14), 16);
        x = Expect.show(LEAST);
        x.cast(0, 0);
        due("12: only one of two", x.fill(), 1);
        due("12: not the first", x.trick(0, 5), 0);
        due("12: but the second", x.trick(1, 5), 1);
    }

    private void night() {
        x = Expect.show(FIVE);
        due("13: nobody cast", x.night(), 0);
        x.cast(1, 0);
        x.cast(2, 1);
        x.cast(3, 1);
        x.cast(0, 3);
        due("13: three are done", x.night(), 3);
        int[] held = {0, 1, 0, 1, 0};
        for (int i = 0; i < 5; i++) {
            due("13: held by " + i, x.person(i, 5), held[i]);
        }
        x.cast(2, 0);
        x.drop(2, 1);
        x.cast(2, 0);
        due("13: the first holds it, too", x.night() + 10 * x.person(0, 5), 3 + 10);
        due("13: nights", x.count(5), 3);
        due("13: done on these", x.count(6), 6);
        for (int i = 4; i <= 99; i++) {
            due("13: night " + i, x.night(), 3);
        }
        due("13: night 100", x.night(), FULL);
        due("13: 99 nights", x.count(5), 99);
        due("13: held", x.person(1, 5), 98);
        due("13: done", x.count(6), 3 * 98);
    }

    private void move() {
        x = Expect.show(FIVE);
        for (int i = 1; i <= 6; i++) {
            due("14: move(true)", x.move(true), i % 6);
        }
        due("14: before 0 is 5", x.move(false), 5);
        due("14: before 5 is 4", x.move(false), 4);
        due("14: moves", x.count(7), 8);
        due("14: town", x.count(8), 4);
    }

    private void letGo() {
        x = Expect.show(FIVE);
        x.cast(0, 0);
        x.cast(2, 0);
        due("15: not from here", x.letGo(1), STATE);
        due("15: letGo(0)", x.letGo(0), 4);
        due("15: not kept", x.letGo(0), STATE);
        due("15: in no trick", x.clear(), 0);
        due("15: letGo(5)", x.letGo(5), UNKNOWN);
        due("15: letGo(-1)", x.letGo(-1), UNKNOWN);
        due("15: letGo(MIN)", x.letGo(MIN), UNKNOWN);
        x.move(true);
        due("15: from there", x.letGo(2), 3);
        due("15: gone", x.count(10), 2);
        x.call(0, 3);
        x.move(false);
        due("15: called elsewhere", x.letGo(0), STATE);
    }

    private void call() {
        x = Expect.show(FIVE);
        due("16: not free", x.call(0, 5), STATE);
        due("16: strong first", x.call(0, 10), OUTSIDE);
        due("16: person first", x.call(5, 10), UNKNOWN);
        due("16: call(-1, 5)", x.call(-1, 5), UNKNOWN);
        x.letGo(0);
        x.letGo(3);
        x.move(false);
        due("16: strong -1", x.call(0, -1), OUTSIDE);
        due("16: strong MAX", x.call(0, MAX), OUTSIDE);
        due("16: call(0, 9)", x.call(0, 9), 4);
        due("16: call(3, 0)", x.call(3, 0), 5);
        due("16: strong", x.person(0, 0), 9);
        due("16: from here", x.person(0, 1), 5);
        due("16: kept", x.person(0, 2), 1);
        due("16: the weakest", x.person(3, 0), 0);
        due("16: called", x.count(9), 2);
        due("16: let go", x.letGo(0), 4);
        due("16: beyond the text", Expect.show(LEAST).call(1, 5), UNKNOWN);
    }

    private void most() {
        x = Expect.show(FIVE);
        int[] who = {1, 10, 1, 1, 10};
        due("17: most(0)", x.most(0), 5);
        for (int i = 0; i < 5; i++) {
            due("17: most(" + (10 + i) + ")", x.most(10 + i), who[i]);
        }
        due("17: nobody is cast by it", x.clear(), 0);
        for (int what : new int[] {-1, 1, 9, 15, MIN, MAX}) {
            due("17: most(" + what + ")", x.most(what), OUTSIDE);
        }
        due("17: six were done", x.count(14), 6);
        x.cast(0, 0);
        due("17: whoever is cast does not matter", x.most(10), 1);
        for (int i = 8; i <= 16; i++) {
            x.most(14);
        }
        due("17: 17th", x.most(0), STATE);
        due("17: 17th, outside first", x.most(1), OUTSIDE);
        due("17: no fill() then", x.fill(), STATE);
        x = Expect.show(ROPES);
        due("17: two ropes of five people", x.most(0), 2);
        int[] ropes = {0, 0, 0, 3, 12};
        for (int i = 0; i < 5; i++) {
            due("17: rope " + i, x.most(10 + i), ropes[i]);
        }
        x = Expect.show(LEAST);
        due("17: no trick 4", x.most(14), 0);
        x.letGo(0);
        due("17: nobody kept", x.most(0), 0);
        x = Expect.show("t019,t119;90");
        due("17: by the strong one", x.most(0), 2);
        x.letGo(0);
        x.call(0, 8);
        due("17: not by the one in his place", x.most(0), 0);
        x = Expect.show(FIVE);
        x.most(0);
        Expect.write(x, LEAST);
        x.show();
        due("17: no trick 4 any more", x.most(14), 0);
        due("17: by the rest", Expect.show("l010,t110;00").most(0), 1);
        due("17: behind the rest", Expect.show("l010,t210;00").most(0), 2);
    }

    private void fewest() {
        x = Expect.show(FIVE);
        due("18: fewest(0)", x.fewest(0), 3);
        due("18: fewest(1)", x.fewest(1), 7);
        due("18: fewest(2)", x.fewest(2), OUTSIDE);
        due("18: fewest(-1)", x.fewest(-1), OUTSIDE);
        due("18: fewest(MIN)", x.fewest(MIN), OUTSIDE);
        due("18: two were done", x.count(15), 2);
        for (int i = 3; i <= 6; i++) {
            due("18: fewest(1), " + i, x.fewest(1), 7);
        }
        due("18: seventh", x.fewest(0), STATE);
        due("18: outside first", x.fewest(2), OUTSIDE);
        x = Expect.show("t018,s112;904010");
        due("18: the strong and the first weak", x.fewest(1), 5);
        x = Expect.show(ROPES);
        due("18: with none", x.fewest(0), NONE);
        due("18: which of none", x.fewest(1), NONE);
        due("18: these were done, too", x.count(15), 2);
        x = Expect.show("p010,p010,t010;0001020304");
        due("18: all five", x.fewest(0), 5);
        due("18: which", x.fewest(1), 31);
        x = Expect.show("t015,t115;609080");
        due("18: the least of like ones", x.fewest(1), 1);
        x.letGo(0);
        due("18: of those kept", x.fewest(1), 2);
    }

    private void spare() {
        x = Expect.show(FIVE);
        due("19: spare()", x.spare(), 31);
        x.letGo(0);
        due("19: of those kept", x.spare() & 1, 0);
        for (int i = 3; i <= 6; i++) {
            x.spare();
        }
        due("19: seventh", x.spare(), STATE);
        due("19: count(16)", x.count(16), 6);
        x = Expect.show("t019,t110,t110;95010203");
        due("19: the only strong one is not, wherever", x.spare(), 14);
        due("19: in a clash", Expect.show("t010,t010;0000").spare(), 0);
        due("19: in a clash of two, with three", Expect.show("t010,t010;000000").spare(), 7);
    }

    private void wants() {
        x = Expect.show(FIVE);
        int[] want = {1, 3, 0, 1, 1, 1, 2, 2, 2, 0, 0, 0};
        for (int hour = 0; hour < 12; hour++) {
            due("20: wants(" + hour + ")", x.wants(hour), want[hour]);
        }
        due("20: wants(12)", x.wants(12), OUTSIDE);
        due("20: wants(-1)", x.wants(-1), OUTSIDE);
        due("20: wants(MIN)", x.wants(MIN), OUTSIDE);
        x = Expect.show("l740,r740;00");
        due("20: the last hour of the latest", x.wants(10), 3);
        due("20: without the rest", x.wants(11), 0);
        due("20: nobody kept matters", x.letGo(0) + x.wants(7), 3);
    }

    private void routeOf(String towns, int moves, int first) {
        StringBuilder text = new StringBuilder("t010,t010;");
        for (char town : towns.toCharArray()) {
            text.append('5').append(town);
        }
        KeptVolunteers one = Expect.show(text.toString());
        int all = (1 << towns.length()) - 1;
        due("21: to " + towns, one.route(all, 0), moves);
        due("21: first to " + towns, one.route(all, 1), first);
    }

    private void route() {
        routeOf("0", 0, NONE);
        routeOf("000", 0, NONE);
        routeOf("1", 1, 1);
        routeOf("5", 1, 0);
        routeOf("3", 3, 1);
        routeOf("2", 2, 1);
        routeOf("4", 2, 0);
        routeOf("15", 3, 1);
        routeOf("14", 4, 1);
        routeOf("25", 4, 0);
        routeOf("24", 4, 1);
        routeOf("13", 3, 1);
        routeOf("53", 3, 0);
        routeOf("12345", 5, 1);
        routeOf("1245", 5, 1);
        routeOf("145", 4, 1);
        routeOf("125", 4, 0);
        routeOf("0345", 3, 0);
        x = Expect.show(FIVE);
        due("21: nobody", x.route(0, 0), OUTSIDE);
        due("21: one too many", x.route(32, 0), OUTSIDE);
        due("21: -1", x.route(-1, 0), OUTSIDE);
        due("21: MIN", x.route(MIN, 0), OUTSIDE);
        due("21: what 2", x.route(1, 2), OUTSIDE);
        due("21: what -1", x.route(1, -1), OUTSIDE);
        due("21: all", x.route(31, 0), 2);
        x.letGo(0);
        due("21: one is gone", x.route(31, 0), OUTSIDE);
        due("21: the others", x.route(30, 0), 2);
        x.move(false);
        due("21: from 5", x.route(30, 0), 3);
        x.move(false);
        due("21: from 4, through 2, 1 and 0", x.route(30, 1), 1);
        due("21: from 4 to 2", x.route(2, 1), 0);
    }

    private void see() {
        x = Expect.show(FIVE);
        due("22: nothing seen", x.person(1, 6), 1023);
        due("22: fits a trick of 3", x.see(1, 0, true), 1);
        due("22: 3 to 9", x.person(1, 6), 0x3f8);
        due("22: is no saw of 7", x.see(1, 2, false), 2);
        due("22: 8, 9", x.person(1, 6), 0x300);
        due("22: another", x.person(0, 6), 1023);
        due("22: fits the saw", x.see(0, 2, true), 3);
        due("22: 0 to 7", x.person(0, 6), 0xff);
        due("22: a rope tells nothing", x.see(0, 4, true), 4);
        due("22: still 0 to 7", x.person(0, 6), 0xff);
        due("22: the pair of 4", x.see(0, 1, false), 5);
        due("22: 0 to 3", x.person(0, 6), 0xf);
        due("22: the long one of 2, twice", x.see(0, 3, true) + x.see(0, 3, true), 13);
        due("22: 2, 3", x.person(0, 6), 0xc);
        due("22: no rope", x.see(2, 4, false), 8);
        due("22: none can be", x.person(2, 6), 0);
        due("22: ninth", x.see(2, 0, true), FULL);
        due("22: see(5, 0)", x.see(5, 0, true), UNKNOWN);
        due("22: see(0, 5)", x.see(0, 5, true), UNKNOWN);
        due("22: see(-1, MIN)", x.see(-1, MIN, false), UNKNOWN);
        due("22: count(11)", x.count(11), 8);
        x.letGo(0);
        due("22: of a free number, too", x.person(0, 6), 0xc);
        x.forget();
        due("22: see of a free number", x.see(0, 0, true), 1);
    }

    private void tryNext() {
        x = Expect.show("r010,t019,t015,t014,s115;50");
        due("8: 5 of 10 left at worst", x.person(0, 7), 2);
        x.see(0, 2, true);
        due("8: of 5 to 9 the saw of 5 leaves 4, like t9", x.person(0, 7), 1);
        x.see(0, 1, true);
        due("8: only 9, so any: the least", x.person(0, 7), 0);
        x.see(0, 1, false);
        due("8: none", x.person(0, 7), NONE);
        x.forget();
        due("8: as at first", x.person(0, 7), 2);
        due("8: ropes alone", Expect.show(ROPES).person(4, 7), 0);
    }

    private void forget() {
        x = Expect.show(FIVE);
        x.see(0, 0, false);
        x.see(1, 0, false);
        due("23: forget()", x.forget(), 2);
        due("23: nothing", x.forget(), 0);
        due("23: all can be", x.person(0, 6), 1023);
        due("23: the first again", x.see(0, 0, false), 1);
    }

    private void tours() {
        x = Expect.show(FIVE);
        due("24: nights 0", x.tours(0, 1, 0), OUTSIDE);
        due("24: nights 41", x.tours(41, 1, 0), OUTSIDE);
        due("24: seed -1", x.tours(1, -1, 0), OUTSIDE);
        due("24: what 3", x.tours(1, 1, 3), OUTSIDE);
        due("24: what -1", x.tours(1, 1, -1), OUTSIDE);
        due("24: MIN", x.tours(MIN, MIN, MIN), OUTSIDE);
        due("24: seed 0, one night", x.tours(1, 0, 2), 12345);
        due("24: seed 1, one night", x.tours(1, 1, 2), 1103527590);
        due("24: as the shared test tells", x.tours(20, 711, 0), 60);
        due("24: as the shared test tells", x.tours(20, 711, 1), 19);
        long seed = MAX;
        for (int i = 0; i < 40; i++) {
            seed = (1103515245L * seed + 12345L) % 2147483648L;
        }
        due("24: forty draws", x.tours(40, MAX, 2), seed);
        due("24: nothing is changed", x.count(5), 0);
        toursByHand();
    }

    /** By seed 0 the first two draws are 0 and 8: 12345 by 65536 is 0, and 1406932606 by that is 21468. */
    private void toursByHand() {
        x = Expect.show("t010,t110;00");
        due("24: the first does both", x.tours(1, 0, 0), 2);
        due("24: nobody is let go", x.tours(1, 0, 1), 0);
        due("24: two nights, four done", x.tours(2, 0, 0), 4);
        due("24: the second is let go", x.tours(2, 0, 1), 1);
        x = Expect.show("t019,t018;00");
        due("24: 0 does nothing, 8 is next", x.tours(2, 0, 0), 1);
        due("24: 0 is let go", x.tours(2, 0, 1), 1);
        x = Expect.show("p010,t010;00");
        due("24: the pair takes the only one, the trick has nobody", x.tours(1, 0, 0), 0);
        due("24: who is let go", x.tours(1, 0, 1), 1);
        x = Expect.show("r010,t110;00");
        due("24: a rope with one, a trick with him", x.tours(1, 0, 0), 1);
        due("24: two hold it on the second night", x.tours(2, 0, 0), 3);
        x = Expect.show("r019,t010,t110;00");
        due("24: 0 and 8 do not hold 9; who is taken is not free", x.tours(2, 0, 0), 2);
        due("24: so the second is let go", x.tours(2, 0, 1), 1);
        x = Expect.show("t010,t010,t010,t010,t010;00");
        due("24: one more each night, up to five", x.tours(7, 0, 0), 1 + 2 + 3 + 4 + 5 + 5 + 5);
        due("24: who is not kept is not let go", x.tours(7, 0, 1), 0);
        due("24: but drawn", x.tours(7, 0, 2), Expect.show(FIVE).tours(7, 0, 2));
        x = Expect.show("t010,t010;00");
        due("24: two are kept", x.tours(7, 0, 0), 1 + 2 * 6);
        due("24: each further one is let go", x.tours(7, 0, 1), 5);
    }

    private void image() {
        x = Expect.show(FIVE);
        due("25: image()", x.image(), 0);
        x.night();
        x.night();
        due("25: the latest", x.image(), 2);
        x.night();
        due("25: restore()", x.restore(), 2);
        due("25: nights", x.count(5), 2);
    }

    private void restore() {
        x = Expect.show(FIVE);
        due("26: none was kept", x.restore(), STATE);
        x.fill();
        x.night();
        x.see(0, 0, false);
        x.image();
        long then = x.digest();
        x.night();
        x.letGo(0);
        x.move(true);
        x.call(0, 2);
        x.see(1, 1, true);
        x.cast(0, 0);
        x.clear();
        due("26: restore()", x.restore(), 1);
        due("26: all is as then", x.digest(), then);
        x.forget();
        x.see(4, 4, false);
        due("26: restore() again", x.restore(), 1);
        due("26: what was seen", x.digest(), then);
        x.letter(65);
        x.most(0);
        x.fewest(0);
        x.spare();
        x.restore();
        due("26: the page is not in it", x.count(12), 1);
        due("26: nor how often most() was done", x.count(14), 2);
        due("26: nor fewest()", x.count(15), 1);
        due("26: nor spare()", x.count(16), 1);
        x.letGo(0);
        x.restore();
        due("26: he is kept again", x.person(0, 2), 1);
        due("26: a page that is none", x.show(), STATE);
        due("26: the image stays", x.restore(), 1);
        x.blank();
        Expect.write(x, FIVE);
        x.show();
        due("26: another show since", x.restore(), STATE);
        due("26: an image of that", x.image() + x.restore(), 0);
    }

    private void count() {
        x = Expect.show(FIVE);
        x.cast(0, 0);
        x.cast(1, 1);
        x.night();
        x.night();
        x.night();
        x.letGo(3);
        x.move(true);
        x.move(true);
        x.letGo(1);
        x.call(3, 3);
        x.see(0, 0, true);
        x.most(0);
        x.fewest(0);
        x.fewest(0);
        x.spare();
        x.letter(9);
        x.letter(9);
        int[] want = {5, 5, 4, 1, 3, 3, 3, 2, 2, 1, 2, 1, 2, 1, 1, 2, 1};
        for (int what = 0; what < want.length; what++) {
            due("27: count(" + what + ")", x.count(what), want[what]);
        }
        due("27: count(17)", x.count(17), OUTSIDE);
        due("27: count(-1)", x.count(-1), OUTSIDE);
        due("27: count(MIN)", x.count(MIN), OUTSIDE);
        due("27: bound of five ropes at once", Expect.show(ROPES).count(4), 10);
        due("27: bound in hour 0", Expect.show("p010,t011;00").count(4), 3);
    }

    private static long fold(long h, int... numbers) {
        long all = h;
        for (int number : numbers) {
            all = 31 * all + number;
        }
        return all;
    }

    private void digest() {
        x = new KeptVolunteers();
        due("28: at first", x.digest(), fold(1117, new int[17]));
        x.letter(65);
        x.letter(66);
        due("28: with letters", x.digest(), fold(1117, 65, 66, 0, 0, 0, 0, 0, 0, 0, 0, 0, 0, 0, 0, 2, 0, 0, 0, 0));
        x = Expect.show("t014,l211;51");
        x.cast(1, 0);
        long h = fold(1117, 0, 0, 1, 4, 1, 0, 0, 1, 0);
        h = fold(h, 3, 2, 1, 1, 1, 1, 1, 1, 0);
        h = fold(h, 5, 1, 1, 2, 12, 0, 1023, 0);
        h = fold(h, 1, 0, 1, 0, 0, 0, 0, 0, 0, 0, 0, 0);
        h = fold(h, 1, 1);
        h = fold(h, 2, 1, 1, 1, 1, 0, 0, 0, 0, 0, 0, 0, 0, 1, 0, 0, 0);
        due("28: of a show", x.digest(), h);
        x.move(true);
        x.letGo(0);
        h = fold(1117, 0, 0, 1, 4, 1, 0, 0, 0, 0);
        h = fold(h, 3, 2, 1, 1, 1, 0, 0, 0, 0);
        h = fold(h, NONE, NONE, 0, 0, 0, 0, 1023, 0);
        h = fold(h, 1, 0, 1, 0, 0, 0, 0, 0, 0, 0, 0, 0);
        h = fold(h, 2, 1, 0, 0, 1, 0, 0, 1, 1, 0, 1, 0, 0, 1, 0, 0, 0);
        due("28: with nobody kept there is no route", x.digest(), h);
        due("28: it changes nothing", x.digest(), h);
    }

    private void refusalsChangeNothing() {
        x = Expect.show(FIVE);
        x.cast(1, 0);
        x.letGo(3);
        x.letter(9);
        long then = x.digest();
        x.letter(0);
        x.show();
        x.trick(5, 0);
        x.as(0, 5);
        x.person(5, 5);
        x.cast(0, 0);
        x.cast(0, 3);
        x.cast(5, 0);
        x.drop(1, 1);
        x.letGo(1);
        x.letGo(3);
        x.call(0, 1);
        x.call(3, 10);
        x.most(5);
        x.fewest(5);
        x.wants(12);
        x.route(0, 0);
        x.see(0, 5, true);
        x.tours(41, 0, 0);
        x.restore();
        x.count(17);
        due("refusals", x.digest(), then);
    }

    /** What README.md says of its example is so. */
    private void exampleOfReadme() {
        x = new KeptVolunteers();
        Expect.write(x, "t023,p114;7042");
        due("README: fault()", x.fault(), 14);
        due("README: show()", x.show(), 2);
        due("README: most(0)", x.most(0), 1);
        due("README: cast(1, 0)", x.cast(1, 0), 1);
        due("README: cast(0, 0)", x.cast(0, 0), STATE);
        due("README: night()", x.night(), 0);
        due("README: cast(1, 1)", x.cast(1, 1), 2);
        due("README: night() with both", x.night(), 1);
        due("README: route(2, 0)", x.route(2, 0), 2);
    }
}
