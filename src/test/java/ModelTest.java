import java.util.Random;

/** Runs of calls by a fixed seed, on the class and on the plain model: all answers must be like. */
public final class ModelTest {
    private static final int RUNS = 1500;
    private static final int CALLS = 512;
    private static final int[] EDGES = {Integer.MIN_VALUE, -1, 5, 6, 31, 32, 63, 127, Integer.MAX_VALUE};

    private final Expect expect;
    private final Random random;
    private final KeptVolunteers x = new KeptVolunteers();
    private final PlainModel y = new PlainModel();
    private int run;
    private int calls;

    private ModelTest(Expect expect, int run) {
        this.expect = expect;
        this.run = run;
        this.random = new Random(run);
    }

    public static void main(String[] args) {
        Expect expect = new Expect("ModelTest");
        for (int run = 0; run < RUNS; run++) {
            new ModelTest(expect, run).go();
        }
        expect.end();
    }

    private void go() {
        int shows = random.nextInt(8) == 0 ? 0 : 1 + random.nextInt(3);
        strayCalls(random.nextInt(12));
        for (int i = 0; i < shows; i++) {
            String text = text();
            if (random.nextInt(4) == 0) {
                text = spoil(text);
            }
            same("blank()", x.blank(), y.blank());
            for (int k = 0; k < text.length(); k++) {
                same("letter", x.letter(text.charAt(k)), y.letter(text.charAt(k)));
            }
            same("fault() of " + text, x.fault(), y.fault());
            same("show() of " + text, x.show(), y.show());
            strayCalls(40 + random.nextInt(120));
        }
        while (calls < CALLS && random.nextInt(60) != 0) {
            strayCalls(1);
        }
    }

    private void same(String call, long got, long want) {
        calls++;
        if (calls <= CALLS) {
            expect.due("run " + run + ", call " + calls + ": " + call, got, want);
        }
    }

    private String text() {
        StringBuilder s = new StringBuilder();
        int tricks = 2 + random.nextInt(4);
        String kinds = random.nextInt(3) == 0 ? "pr" : "tpslr";
        for (int i = 0; i < tricks; i++) {
            s.append(i == 0 ? "" : ",").append(kinds.charAt(random.nextInt(kinds.length())));
            s.append(random.nextInt(8)).append(1 + random.nextInt(4)).append(random.nextInt(10));
        }
        s.append(';');
        for (int i = 1 + random.nextInt(5); i > 0; i--) {
            s.append(random.nextInt(10)).append(random.nextInt(6));
        }
        return s.toString();
    }

    private String spoil(String text) {
        int at = random.nextInt(text.length());
        String signs = "tpslr,;0123456789 x";
        char sign = signs.charAt(random.nextInt(signs.length()));
        switch (random.nextInt(4)) {
            case 0: return text.substring(0, at) + sign + text.substring(at + 1);
            case 1: return text.substring(0, at) + text.substring(at + 1);
            case 2: return text.substring(0, at) + sign + text.substring(at);
            default: return text.substring(0, at);
        }
    }

    private int number(int usual) {
        return random.nextInt(12) == 0 ? EDGES[random.nextInt(EDGES.length)] : random.nextInt(usual);
    }

    private void strayCalls(int n) {
        for (int i = 0; i < n && calls < CALLS; i++) {
            strayCall();
            if (random.nextInt(4) == 0) {
                same("digest()", x.digest(), y.digest());
            }
        }
    }

    private void strayCall() {
        int a = number(5);
        int b = number(5);
        boolean flag = random.nextBoolean();
        switch (random.nextInt(30)) {
            case 0: case 1: case 2: case 3: case 4:
                same("cast(" + a + ", " + b + ")", x.cast(a, b), y.cast(a, b));
                break;
            case 5: same("drop(" + a + ", " + b + ")", x.drop(a, b), y.drop(a, b)); break;
            case 6: same("fill()", x.fill(), y.fill()); break;
            case 7: case 8: same("night()", x.night(), y.night()); break;
            case 9: case 10: same("move(" + flag + ")", x.move(flag), y.move(flag)); break;
            case 11: case 12: same("letGo(" + a + ")", x.letGo(a), y.letGo(a)); break;
            case 13: case 14:
                b = number(10);
                same("call(" + a + ", " + b + ")", x.call(a, b), y.call(a, b));
                break;
            case 15: case 16:
                same("see(" + a + ", " + b + ", " + flag + ")", x.see(a, b, flag), y.see(a, b, flag));
                break;
            case 17: a = number(33); b = number(2); same("route(" + a + ", " + b + ")", x.route(a, b), y.route(a, b)); break;
            case 18: b = number(6); a = b == 0 ? 0 : b + 9; same("most(" + a + ")", x.most(a), y.most(a)); break;
            case 19: a = number(3); same("fewest(" + a + ")", x.fewest(a), y.fewest(a)); break;
            case 20: same("spare()", x.spare(), y.spare()); break;
            case 21: tourCall(); break;
            default: rareCall(random.nextInt(12)); break;
        }
    }

    private void tourCall() {
        int nights = number(42);
        int seed = random.nextBoolean() ? random.nextInt() : number(1000);
        int what = number(3);
        same("tours(" + nights + ", " + seed + ", " + what + ")", x.tours(nights, seed, what), y.tours(nights, seed, what));
    }

    private void rareCall(int which) {
        int a = number(6);
        int b = number(10);
        switch (which) {
            case 0: a = number(128); same("letter(" + a + ")", x.letter(a), y.letter(a)); break;
            case 1: same("blank()", x.blank(), y.blank()); break;
            case 2: same("fault()", x.fault(), y.fault()); break;
            case 3: same("trick(" + a + ", " + b + ")", x.trick(a, b), y.trick(a, b)); break;
            case 4: same("as(" + a + ", " + b + ")", x.as(a, b), y.as(a, b)); break;
            case 5: same("person(" + a + ", " + b + ")", x.person(a, b), y.person(a, b)); break;
            case 6: same("clear()", x.clear(), y.clear()); break;
            case 7: a = number(13); same("wants(" + a + ")", x.wants(a), y.wants(a)); break;
            case 8: same("forget()", x.forget(), y.forget()); break;
            case 9: same("image()", x.image(), y.image()); break;
            case 10: same("restore()", x.restore(), y.restore()); break;
            default: a = number(18); same("count(" + a + ")", x.count(a), y.count(a)); break;
        }
    }
}
