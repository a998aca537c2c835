import java.util.function.Consumer;
import java.util.function.IntPredicate;

/**
 * The document's boundary cases, sentence by sentence: the least and the greatest, nothing there,
 * all there, the ring of towns. What is refused stands in RefusalsTest. Where the cases are few
 * enough, all of them are gone through.
 */
public final class EdgesTest {
    private static final int NONE = -1, UNKNOWN = -101, STATE = -103, FULL = -104;
    private static final int MAX = Integer.MAX_VALUE;
    private static final String FIVE = "t023,p114,s327,l512,r638;7042318051";
    private static final String DIGITS = "0123456789";

    private final Expect expect = new Expect("EdgesTest");

    public static void main(String[] args) {
        EdgesTest t = new EdgesTest();
        t.aShowIsAText();
        t.showsThatEnd();
        t.thePage();
        t.atFirst();
        t.showTakesAllAway();
        t.kindsAndWants();
        t.whoFits();
        t.whatIsDone();
        t.ropesTogether();
        t.clashes();
        t.busyAndWants();
        t.castDropClear();
        t.nights();
        t.ring();
        t.letGoAndCall();
        t.most();
        t.mostAndFillTogether();
        t.fewest();
        t.spare();
        t.bound();
        t.routes();
        t.routeOfSome();
        t.seen();
        t.strongs();
        t.tryNext();
        t.toursAtTheEdges();
        t.toursLine();
        t.toursDraw();
        t.imageKeeps();
        t.imageLatest();
        t.imageLimits();
        t.nobodyKept();
        t.digestFolds();
        t.last512();
        t.expect.end();
    }

    private void due(String sentence, long got, long want) {
        expect.due(sentence, got, want);
    }

    // ---- the page, and the show as a text

    /** Behind a text that may begin a show exactly these signs may come; all codes are tried. */
    private void mayFollow(String text, String signs) {
        due("4: no fault yet in " + text, Expect.page(text).fault(), text.length());
        for (int code = 1; code <= 126; code++) {
            KeptVolunteers x = Expect.page(text);
            x.letter(code);
            int want = signs.indexOf(code) >= 0 ? text.length() + 1 : text.length();
            due("4: fault() of " + text + " and code " + code, x.fault(), want);
            Expect.write(x, ",");
            due("4: the first fault stays that", Math.min(x.fault(), text.length() + 1), want);
        }
    }

    private void aShowIsAText() {
        mayFollow("", "tpslr");
        for (char kind : "tpslr".toCharArray()) {
            mayFollow("" + kind, "01234567");
            mayFollow(kind + "0", "1234");
            mayFollow(kind + "7", "1234");
            mayFollow(kind + "01", DIGITS);
            mayFollow(kind + "74", DIGITS);
            mayFollow(kind + "010", ",");
            mayFollow(kind + "749", ",");
        }
        mayFollow("t010,", "tpslr");
        mayFollow("t010,p010", ",;");
        mayFollow("t010,p010,s010", ",;");
        mayFollow("t010,p010,s010,l010", ",;");
        mayFollow("t010,p010,s010,l010,", "tpslr");
        mayFollow("t010,p010,s010,l010,r010", ";");
        for (String tricks : new String[] {"t010,t010", "t010,t010,t010", "t010,t010,t010,t010", "t010,t010,t010,t010,t010"}) {
            StringBuilder text = new StringBuilder(tricks).append(';');
            for (int i = 0; i < 5; i++) {
                mayFollow(text.toString(), DIGITS);
                text.append(i * 2);
                mayFollow(text.toString(), "012345");
                text.append(i);
            }
            mayFollow(text.toString(), "");
        }
    }

    private void showsThatEnd() {
        for (int tricks = 1; tricks <= 6; tricks++) {
            for (int people = 0; people <= 6; people++) {
                StringBuilder text = new StringBuilder("t010");
                text.append(",t010".repeat(tricks - 1)).append(';').append("00".repeat(people));
                boolean is = tricks >= 2 && tricks <= 5 && people >= 1 && people <= 5;
                if (text.length() <= 36) {
                    due("1: " + tricks + " tricks, " + people + " people", Expect.page(text.toString()).show(), is ? tricks : STATE);
                }
            }
        }
        for (int length = 0; length <= FIVE.length(); length++) {
            KeptVolunteers x = Expect.page(FIVE.substring(0, length));
            boolean ends = length >= 27 && length % 2 == 1;
            due("5: the first " + length + " letters", x.show(), ends ? 5 : STATE);
            due("5: people of these", x.count(1), ends ? (length - 25) / 2 : 0);
            due("5: the page of these", x.count(12), ends ? 0 : length);
        }
        due("1: the least digits", Expect.page("t010,p010;00").show(), 2);
        KeptVolunteers x = Expect.page("t749,p749;95");
        due("1: the greatest digits", x.show(), 2);
        int[] told = {7, 4, 9};
        for (int what = 1; what <= 3; what++) {
            due("6: trick(1, " + what + ")", x.trick(1, what), told[what - 1]);
        }
        due("8: the strongest", x.person(0, 0), 9);
        due("8: the last town", x.person(0, 1), 5);
    }

    private void thePage() {
        KeptVolunteers x = new KeptVolunteers();
        due("3: an empty page", x.blank(), 0);
        due("4: no letter, no fault", x.fault(), 0);
        due("2: the least code", x.letter(1), 1);
        due("2: the greatest code", x.letter(126), 2);
        due("4: fault() changes nothing", x.fault() + 10 * x.count(12), 20);
        due("3: both are gone", x.blank(), 2);
        for (int round = 0; round < 2; round++) {
            for (int i = 1; i <= 36; i++) {
                due("2: letter " + i, x.letter(FIVE.charAt(i % 35)), i);
            }
            due("2: above 36", x.letter(116), FULL);
            due("27: 36 letters", x.count(12), 36);
            due("3: 36 letters", x.blank(), 36);
        }
        Expect.write(x, FIVE);
        due("4: a show has no fault", x.fault(), 35);
        due("2: a 36th letter", x.letter('0'), 36);
        due("4: that no show has", x.fault(), 35);
        due("5: so it is none", x.show(), STATE);
        x.blank();
        Expect.write(x, FIVE);
        due("5: it is one", x.show(), 5);
        due("5: the page is empty then", x.blank(), 0);
        due("4: so is its fault", x.fault(), 0);
        due("2: the first letter again", x.letter('t'), 1);
        due("3: blank() leaves the show", x.blank() + 10 * x.count(0), 51);
        for (String sign : new String[] {"A", "t", "0", ",", ";", "~"}) {
            KeptVolunteers full = Expect.page(sign.repeat(36));
            due("4: 36 times " + sign, full.fault(), sign.equals("t") ? 1 : 0);
            due("5: 36 times " + sign, full.show(), STATE);
            due("3: 36 times " + sign, full.blank(), 36);
        }
        pageAnew();
    }

    /** What stood on the page before does not count any more. */
    private void pageAnew() {
        KeptVolunteers x = Expect.page(FIVE + "0");
        x.blank();
        Expect.write(x, "t010,t010");
        due("4: a shorter text behind a longer one", x.fault(), 9);
        due("5: it is none", x.show(), STATE);
        Expect.write(x, ";5");
        due("5: nor is that", x.show(), STATE);
        due("2: the last letter", x.letter('0'), 12);
        due("5: it is one", x.show() + 10 * x.count(1), 12);
    }

    private void atFirst() {
        KeptVolunteers x = new KeptVolunteers();
        for (int what = 0; what <= 16; what++) {
            due("1: no SHOW, count(" + what + ")", x.count(what), 0);
        }
        due("11: nobody was CAST", x.clear(), 0);
        due("23: nothing was SEEN", x.forget(), 0);
        for (int people = 1; people <= 5; people++) {
            x = Expect.show("t010,t010;" + "73".repeat(people));
            due("Terms: then it is in TOWN 0", x.count(8), 0);
            due("Terms: all are KEPT", x.count(2), people);
            due("27: numbers of PEOPLE", x.count(1), people);
            for (int i = 0; i < people; i++) {
                due("Terms: KEPT " + i, x.person(i, 2), 1);
                due("Terms: not CAST " + i, x.person(i, 3), 0);
                due("Terms: all STRONGS " + i, x.person(i, 6), 1023);
            }
            due("8: as many as the text told, less 1", x.person(people, 2), UNKNOWN);
            due("Terms: nobody is CAST", x.clear(), 0);
        }
    }

    /** Everything that belongs to a show; the page and how often calls were done do not. */
    private void likeFresh(String sentence, KeptVolunteers x, String text) {
        KeptVolunteers fresh = Expect.show(text);
        due(sentence + ": no image", x.restore(), STATE);
        for (int what = 0; what <= 12; what++) {
            due(sentence + ": count(" + what + ")", x.count(what), fresh.count(what));
        }
        for (int i = 0; i < 5; i++) {
            for (int what = 0; what <= 8; what++) {
                due(sentence + ": trick(" + i + ", " + what + ")", x.trick(i, what), fresh.trick(i, what));
                due(sentence + ": person(" + i + ", " + what + ")", x.person(i, what), fresh.person(i, what));
            }
        }
    }

    private void showTakesAllAway() {
        for (String text : new String[] {FIVE, "t010,t010;00", "r749,l749,s110;905132"}) {
            KeptVolunteers x = Expect.show(FIVE);
            x.fill();
            x.night();
            x.move(false);
            x.move(true);
            x.letGo(0);
            x.call(0, 1);
            x.move(false);
            x.see(0, 0, true);
            x.see(4, 1, false);
            x.image();
            Expect.write(x, text);
            due("5: how many TRICKS", x.show(), Expect.page(text).show());
            likeFresh("5: another one is gone, with all that was", x, text);
            due("27: how often a SHOW was read", x.count(13), 2);
            due("14: from TOWN 0 again", x.move(true), 1);
        }
    }

    // ---- terms

    private void kindsAndWants() {
        KeptVolunteers x = Expect.show(FIVE);
        String[] is = {"0", "01", "02", "03", "014"};
        int[] wants = {1, 2, 1, 1, 2};
        for (int i = 0; i < 5; i++) {
            due("6: KIND " + i, x.trick(i, 0), i);
            due("Terms: how many it wants " + i, x.trick(i, 4), wants[i]);
            for (int kind = 0; kind <= 4; kind++) {
                due("7: as(" + i + ", " + kind + ")", x.as(i, kind), is[i].indexOf('0' + kind) >= 0 ? i : NONE);
            }
        }
    }

    /** As STRONG as its NEED; one less; one more: by all NEEDS and STRONGS. */
    private void whoFits() {
        for (int need = 0; need <= 9; need++) {
            for (int strong = 0; strong <= 9; strong++) {
                KeptVolunteers x = Expect.show("t01" + need + ",p11" + need + ",s21" + need + ",l31" + need + ",r51" + need
                    + ";" + strong + "0" + strong + "0");
                int atLeast = strong >= need ? 3 : 0;
                int atMost = strong <= need ? 3 : 0;
                int[] fits = {atLeast, atLeast, atMost, atLeast, 3};
                for (int i = 0; i < 5; i++) {
                    String one = "Terms: " + strong + " and the NEED " + need + " of KIND " + i;
                    due(one, x.trick(i, 7), fits[i]);
                    x.cast(i, 0);
                    x.cast(i, 1);
                    boolean done = i < 4 ? fits[i] != 0 : 2 * strong >= need;
                    due(one + ": DONE", x.trick(i, 6), done ? 1 : 0);
                }
            }
        }
    }

    private void whatIsDone() {
        KeptVolunteers x = Expect.show("p015,r119;505040");
        due("Terms: a PAIR with nobody", x.trick(0, 6), 0);
        x.cast(0, 0);
        due("Terms: a PAIR with one", x.trick(0, 6), 0);
        x.cast(0, 1);
        due("Terms: a PAIR with two", x.trick(0, 6), 1);
        due("27: DONE now", x.count(3), 1);
        x.drop(0, 0);
        x.cast(0, 2);
        due("Terms: the second does not FIT", x.trick(0, 6), 0);
        due("27: none DONE now", x.count(3), 0);
        x.drop(0, 1);
        x.cast(0, 0);
        due("Terms: nor does he, whoever came first", x.trick(0, 6), 0);
        due("Terms: a ROPE with nobody", x.trick(1, 6), 0);
        x.cast(1, 0);
        due("Terms: a ROPE with one", x.trick(1, 6), 0);
        x.cast(1, 2);
        due("Terms: a ROPE with two, just STRONG enough", x.trick(1, 6), 1);
        x = Expect.show("r010,t119,s210;0090");
        x.cast(0, 0);
        due("Terms: a ROPE of NEED 0 wants two", x.trick(0, 6), 0);
        due("Terms: with nobody a TRICK is not DONE", x.trick(1, 6) + x.trick(2, 6), 0);
    }

    private void ropesTogether() {
        for (int need = 0; need <= 9; need++) {
            for (int one = 0; one <= 9; one++) {
                for (int other = 0; other <= 9; other++) {
                    KeptVolunteers x = Expect.show("r01" + need + ",t110;" + one + "0" + other + "0");
                    x.cast(0, 0);
                    x.cast(0, 1);
                    due("Terms: a ROPE of " + need + " by " + one + " and " + other, x.trick(0, 6), one + other >= need ? 1 : 0);
                }
            }
        }
    }

    /** All pairs of a TRICK or a LONG one in all HOURS: CLASH, CAST and MOST by one who FITS both. */
    private void clashes() {
        for (int pair = 0; pair < 2 * 8 * 4 * 2 * 8 * 4; pair++) {
            boolean longOne = pair % 2 == 1;
            boolean longOther = pair / 2 % 2 == 1;
            int from = pair / 4 % 8;
            int hours = pair / 32 % 4 + 1;
            int otherFrom = pair / 128 % 8;
            int otherHours = pair / 1024 % 4 + 1;
            String text = (longOne ? "l" : "t") + from + hours + "0," + (longOther ? "l" : "t") + otherFrom + otherHours + "0;50";
            int end = from + hours + (longOne ? 1 : 0);
            int otherEnd = otherFrom + otherHours + (longOther ? 1 : 0);
            boolean clash = from < otherEnd && otherFrom < end;
            KeptVolunteers x = Expect.show(text);
            due("Terms: CLASH of 0 in " + text, x.trick(0, 8), clash ? 2 : 0);
            due("Terms: CLASH of 1 in " + text, x.trick(1, 8), clash ? 1 : 0);
            due("2: MOST of " + text, x.most(0), clash ? 1 : 2);
            x.cast(0, 0);
            due("9: CAST in both of " + text, x.cast(1, 0), clash ? STATE : 1);
        }
    }

    private void busyAndWants() {
        String kinds = "tpslr";
        for (int kind = 0; kind < 5; kind++) {
            for (int from = 0; from <= 7; from++) {
                for (int hours = 1; hours <= 4; hours++) {
                    KeptVolunteers x = Expect.show(kinds.charAt(kind) + "" + from + hours + "9,s010;00");
                    x.cast(0, 0);
                    int rest = kind == 3 ? 1 : 0;
                    String one = "KIND " + kind + " from " + from + " for " + hours;
                    due("8: BUSY, done or not: " + one, x.person(0, 4), bitsWhere(from, from + hours + rest));
                    int wanted = kind == 1 || kind == 4 ? 2 : 1;
                    for (int hour = 0; hour <= 11; hour++) {
                        int want = (hour >= from && hour < from + hours ? wanted : 0) + (hour == 0 ? 1 : 0);
                        due("20: WANTS of " + hour + ", without the rest: " + one, x.wants(hour), want);
                    }
                }
            }
        }
    }

    private static int bitsWhere(int from, int end) {
        int bits = 0;
        for (int i = from; i < end; i++) {
            bits |= 1 << i;
        }
        return bits;
    }

    // ---- who is cast

    private void castDropClear() {
        KeptVolunteers x = Expect.show("t010,p110,s210,l310,r510;5051525354");
        due("11: nobody is", x.clear(), 0);
        for (int i = 0; i < 5; i++) {
            due("9: the first in " + i, x.cast(i, 4), 1);
        }
        due("8: BUSY in the HOURS of all, and by the rest", x.person(4, 4), 63);
        due("9: the second in the PAIR", x.cast(1, 0), 2);
        due("9: the second in the ROPE", x.cast(4, 0), 2);
        due("9: a TRICK has as many as it wants", x.cast(0, 0), STATE);
        due("9: a SAW", x.cast(2, 0), STATE);
        due("9: a LONG one", x.cast(3, 0), STATE);
        due("9: a PAIR", x.cast(1, 1), STATE);
        due("9: a ROPE", x.cast(4, 1), STATE);
        due("8: in all TRICKS", x.person(4, 3), 31);
        due("10: one of two", x.drop(4, 4), 1);
        due("10: he is out of it", x.trick(4, 5), 1);
        due("10: the other", x.drop(4, 0), 0);
        due("10: nobody is left", x.trick(4, 5), 0);
        due("9: there is room again", x.cast(4, 1), 1);
        due("11: in two TRICKS: two", x.clear(), 6);
        due("11: nobody is CAST any more", x.clear() + x.person(4, 3) + x.person(0, 4), 0);
        x = Expect.show("p010,p110,p210,r310,r410;5051525354");
        for (int i = 0; i < 5; i++) {
            x.cast(i, i);
            x.cast(i, (i + 1) % 5);
        }
        due("11: ten, all there", x.clear(), 10);
    }

    private void nights() {
        KeptVolunteers x = Expect.show("t010,t110,t219,p310,r419;506070");
        due("13: nobody is CAST", x.night(), 0);
        x.cast(0, 0);
        x.cast(1, 0);
        x.cast(2, 1);
        x.cast(3, 2);
        x.cast(4, 1);
        x.cast(4, 2);
        due("13: three are DONE", x.night(), 3);
        due("Terms: once for all TRICKS of his", x.person(0, 5), 1);
        due("Terms: in one that is DONE, and one that is not", x.person(1, 5), 1);
        due("Terms: so, too", x.person(2, 5), 1);
        x.drop(4, 2);
        due("13: two are DONE", x.night(), 2);
        due("Terms: in none that is DONE", x.person(1, 5), 1);
        due("Terms: once more", x.person(0, 5), 2);
        for (int i = 4; i <= 99; i++) {
            due("13: NIGHT " + i, x.night(), 2);
        }
        due("13: there were 99", x.night(), FULL);
        due("27: NIGHTS", x.count(5), 99);
        due("27: DONE on these", x.count(6), 3 + 2 * 97);
        due("8: held", x.person(0, 5), 98);
        Expect.write(x, FIVE);
        x.show();
        due("13: of another SHOW", x.night() + x.count(5), 1);
    }

    // ---- towns, who comes and goes

    private void ring() {
        KeptVolunteers x = Expect.show("t010,t010;50");
        for (int i = 1; i <= 13; i++) {
            due("14: to the next TOWN", x.move(true), i % 6);
            due("27: the TOWN", x.count(8), i % 6);
        }
        for (int i = 1; i <= 14; i++) {
            due("14: to the one before", x.move(false), (19 - i) % 6);
        }
        due("27: MOVES, both ways", x.count(7), 27);
        for (int town = 0; town <= 5; town++) {
            KeptVolunteers y = Expect.show("t010,t010;5" + town);
            for (int here = 0; here <= 5; here++) {
                y.image();
                due("15: from " + town + " in " + here, y.letGo(0), here == town ? 0 : STATE);
                y.restore();
                y.move(true);
            }
        }
    }

    private void letGoAndCall() {
        KeptVolunteers x = Expect.show("t010,t110,p010;505050");
        x.cast(0, 0);
        x.cast(1, 0);
        x.cast(2, 1);
        x.cast(2, 2);
        x.night();
        due("15: how many are KEPT", x.letGo(0), 2);
        due("Terms: he is in no TRICK any more", x.trick(0, 5) + x.trick(1, 5), 0);
        due("Terms: the others are", x.trick(2, 5), 6);
        due("15: another", x.letGo(2), 1);
        due("Terms: out of the PAIR", x.trick(2, 5), 2);
        due("15: the last", x.letGo(1), 0);
        due("27: LET GO", x.count(10), 3);
        int[] free = {NONE, NONE, 0, 0, 0, 0, 1023, 0};
        for (int what = 0; what <= 7; what++) {
            due("8: his number is free, " + what, x.person(1, what), free[what]);
        }
        x.move(false);
        due("16: the least strong", x.call(2, 0), 1);
        due("16: the strongest", x.call(0, 9), 2);
        due("8: so STRONG", x.person(2, 0) + 10 * x.person(0, 0), 90);
        due("8: from there", x.person(2, 1), 5);
        due("8: KEPT", x.person(2, 2), 1);
        due("8: in none", x.person(2, 3), 0);
        due("8: he held none", x.person(2, 5), 0);
        due("27: CALLED up", x.count(9), 2);
        due("16: the last free number", x.call(1, 5), 3);
        due("16: none is free", x.call(1, 5), STATE);
        due("15: where he is from", x.letGo(2), 2);
        x.move(true);
        due("15: where he is from alone", x.letGo(0), STATE);
    }

    // ---- what would be

    private void mostIs(String text, int... who) {
        KeptVolunteers x = Expect.show(text);
        int done = 0;
        for (int set : who) {
            done += set != 0 ? 1 : 0;
        }
        due("2: MOST of " + text, x.most(0), done);
        for (int i = 0; i < 5; i++) {
            due("17: who in " + i + " of " + text, x.most(10 + i), i < who.length ? who[i] : 0);
        }
        due("12: fill() of " + text, x.fill(), done);
        for (int i = 0; i < who.length; i++) {
            due("12: CAST in " + i + " of " + text, x.trick(i, 5), who[i]);
        }
        due("12: DONE now", x.count(3), done);
        due("27: most() and fill()", x.count(14), 7);
    }

    private void most() {
        mostIs("t010,t010;00", 0, 1);
        mostIs("t010,t110;00", 1, 1);
        mostIs("t010,t010;0000", 1, 2);
        mostIs("t010,t019;9000", 2, 1);
        mostIs("t019,t010;9000", 1, 2);
        mostIs("p010,t010;000000", 3, 4);
        mostIs("t010,p010;000000", 1, 6);
        mostIs("p010,t010;0000", 0, 1);
        mostIs("p010,p110;00", 0, 0);
        mostIs("r019,t110;4050", 3, 1);
        mostIs("r019,t110;4040", 0, 1);
        mostIs("r019,r119;405060", 3, 3);
        mostIs("r019,t115;405060", 3, 2);
        mostIs("s010,s019;0090", 1, 2);
        mostIs("t019,s010;5051", 0, 0);
        mostIs("l010,t110;00", 0, 1);
        mostIs("l010,t210;00", 1, 1);
        mostIs("t015,t019,t010;9050", 0, 1, 2);
        mostIs("t010,t010,t010,t010,t010;0000000000", 1, 2, 4, 8, 16);
        mostIs("r740,r740,r740,r740,r740;0000000000", 0, 0, 0, 3, 12);
        mostIs("t010,t110,t210,t310,t410;00", 1, 1, 1, 1, 1);
        mostIs("t010,t110,t020;50", 1, 1, 0);
        mostIs("t010,t110,t020;5050", 1, 1, 2);
        mostIs("p010,p110,p020;5050505050", 3, 3, 12);
        KeptVolunteers x = Expect.show("t010,t010;0000");
        x.cast(0, 1);
        due("2: whoever is CAST now does not matter", x.most(10) + 10 * x.most(11), 21);
        due("17: nor is he any other then", x.trick(0, 5) + 10 * x.trick(1, 5), 2);
        due("12: whoever was, is not", x.fill() + 10 * x.trick(0, 5) + 100 * x.trick(1, 5), 212);
        x = Expect.show("t010,t010;0000");
        x.letGo(0);
        due("2: of those KEPT", x.most(10) + 10 * x.most(11), 20);
    }

    private void mostAndFillTogether() {
        KeptVolunteers x = Expect.show(FIVE);
        for (int i = 1; i <= 8; i++) {
            due("17: most()", x.most(0), 5);
            due("27: how often", x.count(14), 2 * i - 1);
            due("12: fill()", x.fill(), 5);
            due("27: how often", x.count(14), 2 * i);
        }
        due("17: done 16 times", x.most(0), STATE);
        due("12: done 16 times", x.fill(), STATE);
        due("18: fewest() is counted by itself", x.fewest(0), 3);
        due("19: so is spare()", x.spare(), 31);
        due("27: one of each", x.count(15) + 10 * x.count(16), 11);
    }

    private void fewestIs(String text, int which) {
        KeptVolunteers x = Expect.show(text);
        due("2: FEWEST of " + text, x.fewest(1), which);
        due("18: how few of " + text, x.fewest(0), which == NONE ? NONE : Integer.bitCount(which));
        due("27: fewest() twice", x.count(15), 2);
    }

    private void fewest() {
        fewestIs("t010,t110;00", 1);
        fewestIs("t010,t010;00", NONE);
        fewestIs("t010,t010;0000", 3);
        fewestIs("t011,t111;0000", NONE);
        fewestIs("t015,t115;405060", 2);
        fewestIs("t015,s115;901050", 4);
        fewestIs("t015,s114;901050", 3);
        fewestIs("t015,s114;90501040", 5);
        fewestIs("l010,t110;0000", 3);
        fewestIs("l010,t210;0000", 1);
        fewestIs("r019,t110;10205040", 12);
        fewestIs("p010,p010,t010;0000000000", 31);
        fewestIs("p010,p010,p010;0000000000", NONE);
        KeptVolunteers x = Expect.show("t015,t115;605060");
        x.letGo(0);
        due("2: of those KEPT", x.fewest(1), 2);
        x.letGo(1);
        due("2: of those KEPT", x.fewest(1), 4);
        x.letGo(2);
        due("2: with none", x.fewest(1), NONE);
        for (int i = 4; i <= 6; i++) {
            due("18: how few: with none", x.fewest(0), NONE);
        }
        due("18: done 6 times", x.fewest(0), STATE);
        due("27: 6 times", x.count(15), 6);
    }

    private void spareIs(String text, int who) {
        KeptVolunteers x = Expect.show(text);
        due("2: SPARE of " + text, x.spare(), who);
        x.move(true);
        due("2: wherever the SHOW is", x.spare(), who);
        due("27: spare() twice", x.count(16), 2);
    }

    private void spare() {
        spareIs("t010,t110;00", 0);
        spareIs("t010,t110;0001", 3);
        spareIs("t010,t010;0001", 0);
        spareIs("t010,t010;000102", 7);
        spareIs("t019,t119;0001", 3);
        spareIs("t019,t110;0095", 1);
        spareIs("p010,t110;0001", 0);
        spareIs("r019,t110;405060", 7);
        spareIs("r019,t110;304060", 3);
        spareIs("r019,t110;204060", 1);
        spareIs("t010,t010,t010,t010,t010;0001020304", 0);
        KeptVolunteers x = Expect.show("t010,t110;5050");
        due("2: either", x.spare(), 3);
        x.letGo(0);
        due("2: of those KEPT; whose going leaves none", x.spare(), 0);
        x.letGo(1);
        for (int i = 3; i <= 6; i++) {
            due("2: nobody KEPT", x.spare(), 0);
        }
        due("19: done 6 times", x.spare(), STATE);
        due("27: 6 times", x.count(16), 6);
    }

    private void boundIs(String text, int bound) {
        due("2: BOUND of " + text, Expect.show(text).count(4), bound);
    }

    private void bound() {
        boundIs("t010,t110;00", 1);
        boundIs("t020,t110;00", 2);
        boundIs("p010,t110;00", 2);
        boundIs("l010,t110;00", 1);
        boundIs("t740,l640,p110;00", 2);
        boundIs("r740,r740,r740,r740,r740;00", 10);
        boundIs("p010,p010,t740,t740,t740;00", 4);
        boundIs("t010,t110,p740,p740,p740;00", 6);
    }

    /** All sets of TOWNS by five people at most, from all TOWNS, against all rows of six MOVES. */
    private void routes() {
        for (int towns = 1; towns < 63; towns++) {
            StringBuilder text = new StringBuilder("t010,t010;");
            for (int town = 0; town <= 5; town++) {
                if ((towns >> town & 1) != 0) {
                    text.append(5).append(town);
                }
            }
            KeptVolunteers x = Expect.show(text.toString());
            int all = (1 << Integer.bitCount(towns)) - 1;
            for (int here = 0; here <= 5; here++) {
                int on = 1 + walk((here + 1) % 6, towns & ~(1 << here), 6);
                int back = 1 + walk((here + 5) % 6, towns & ~(1 << here), 6);
                boolean there = towns == 1 << here;
                String one = "2: ROUTE of " + text + " from " + here;
                due(one, x.route(all, 0), there ? 0 : Math.min(on, back));
                due(one + ", the first MOVE", x.route(all, 1), there ? NONE : on <= back ? 1 : 0);
                x.move(true);
            }
            due("21: it makes no MOVE", x.count(7) + x.count(8), 6);
        }
    }

    /** How few moves from here on, with so many at most. */
    private static int walk(int town, int towns, int most) {
        int left = towns & ~(1 << town);
        if (left == 0 || most == 0) {
            return left == 0 ? 0 : 100;
        }
        return 1 + Math.min(walk((town + 1) % 6, left, most - 1), walk((town + 5) % 6, left, most - 1));
    }

    private void routeOfSome() {
        KeptVolunteers x = Expect.show("t010,t010;5051525354");
        int[] moves = {0, 1, 2, 3, 2};
        int[] first = {NONE, 1, 1, 1, 0};
        for (int i = 0; i < 5; i++) {
            due("21: to the TOWN of " + i, x.route(1 << i, 0), moves[i]);
            due("21: the first MOVE to that of " + i, x.route(1 << i, 1), first[i]);
        }
        due("21: all five", x.route(31, 0), 4);
        for (int town = 0; town <= 5; town++) {
            String from = "5" + town;
            KeptVolunteers one = Expect.show("t010,t010;" + from);
            KeptVolunteers four = Expect.show("t010,t010;" + from + from + from + from);
            due("21: two from TOWN " + town, four.route(3, 0), one.route(1, 0));
            due("21: four from TOWN " + town, four.route(15, 1), one.route(1, 1));
        }
        x.move(false);
        due("21: from 5 to 0", x.route(1, 0) + 10 * x.route(1, 1), 11);
        due("21: from 5 to 4", x.route(16, 0) + 10 * x.route(16, 1), 1);
        x.move(true);
        x.letGo(0);
        x.move(false);
        x.call(0, 5);
        x.move(true);
        due("21: from 0 to 5", x.route(1, 0) + 10 * x.route(1, 1), 1);
        due("21: to one CALLED up in 5, and to 4", x.route(17, 0) + 10 * x.route(17, 1), 2);
    }

    // ---- what is seen

    private void seen() {
        KeptVolunteers x = Expect.show(FIVE);
        due("23: nothing was", x.forget(), 0);
        for (int round = 0; round < 2; round++) {
            for (int i = 1; i <= 8; i++) {
                due("22: how much is", x.see(i % 5, i % 4, i % 2 == 0), i);
                due("27: SEEN", x.count(11), i);
            }
            due("22: 8 at most", x.see(0, 0, true), FULL);
            due("23: how much was", x.forget(), 8);
            for (int i = 0; i < 5; i++) {
                due("23: nothing is SEEN any more of " + i, x.person(i, 6), 1023);
            }
        }
        x.letGo(0);
        due("22: of a free number", x.see(0, 0, true), 1);
        due("8: STRONGS of a free number", x.person(0, 6), 0x3f8);
        x.call(0, 0);
        due("8: how STRONG he is tells nothing of what is SEEN", x.person(0, 6), 0x3f8);
    }

    private void strongsAre(String sentence, String kind, int need, boolean fits, IntPredicate can) {
        KeptVolunteers x = Expect.show("t010," + kind + "11" + need + ";5050");
        x.see(1, 1, fits);
        int want = 0;
        for (int strong = 0; strong <= 9; strong++) {
            want |= can.test(strong) ? 1 << strong : 0;
        }
        due(sentence + ": " + kind + need + " " + fits, x.person(1, 6), want);
        due("8: of another nothing is SEEN", x.person(0, 6), 1023);
        due("8: TRY", x.person(1, 7) == NONE ? 1 : 0, want == 0 ? 1 : 0);
    }

    private void strongs() {
        for (int number = 0; number <= 9; number++) {
            int need = number;
            for (String kind : new String[] {"t", "p", "l"}) {
                strongsAre("3: FITS", kind, need, true, s -> s >= need);
                strongsAre("3: does not", kind, need, false, s -> s < need);
            }
            strongsAre("3: FITS", "s", need, true, s -> s <= need);
            strongsAre("3: does not", "s", need, false, s -> s > need);
            strongsAre("3: any FITS a ROPE", "r", need, true, s -> true);
            strongsAre("3: nobody does not", "r", need, false, s -> false);
        }
        KeptVolunteers x = Expect.show("t015,s115;50");
        x.see(0, 0, true);
        x.see(0, 1, true);
        due("3: all that is SEEN is so: 5 alone", x.person(0, 6), 1 << 5);
        x.see(0, 0, false);
        due("3: none is left", x.person(0, 6), 0);
    }

    private void tryIs(String tricks, int want) {
        due("3: TRY of " + tricks, Expect.show(tricks + ";50").person(0, 7), want);
    }

    private void tryNext() {
        tryIs("t010,t011", 1);
        tryIs("t011,t019", 0);
        tryIs("t019,s010", 0);
        tryIs("t014,t016", 0);
        tryIs("t014,t015", 1);
        tryIs("s014,t015", 0);
        tryIs("r015,t010", 0);
        tryIs("t010,r015", 0);
        tryIs("r015,t019", 1);
        tryIs("r010,r011,r012,r013,r014", 0);
        tryIs("t010,t010,t010,t010,s014", 4);
        KeptVolunteers x = Expect.show("t010,t013,t015,t018;50");
        due("3: of ten t5 leaves five", x.person(0, 7), 2);
        x.see(0, 2, true);
        due("3: of five t8 leaves three", x.person(0, 7), 3);
        x.see(0, 3, true);
        due("3: of 8 and 9 two are left by any: the least", x.person(0, 7), 0);
        x.see(0, 0, false);
        due("3: none, if there are none", x.person(0, 7), NONE);
    }

    private void toursAtTheEdges() {
        KeptVolunteers x = Expect.show(FIVE);
        due("24: the least seed", x.tours(1, 0, 2), 12345);
        due("24: the greatest seed, wrapped", x.tours(1, MAX, 2), 1043980748);
        long seed = 711;
        for (int nights = 1; nights <= 40; nights++) {
            seed = (1103515245L * seed + 12345L) % (1L << 31);
            due("24: the SEED behind " + nights + " NIGHTS: one DRAW each", x.tours(nights, 711, 2), seed);
        }
        due("24: as they would be: nobody else is KEPT", x.count(2) + x.count(5) + x.count(9) + x.count(10), 5);
        due("24: a tour is the same again", x.tours(40, 9, 0), x.tours(40, 9, 0));
    }

    /** By seed 0 those CALLED up are 0, 8, 8, 7, 8, 7, 5 STRONG. */
    private void toursLine() {
        toursAre("t010,t010,t010,t010,t010", 4, 10, 0);
        toursAre("t010,t010,t010,t010,t010", 5, 15, 0);
        toursAre("t010,t010,t010,t010,t010", 6, 20, 0);
        toursAre("t010,t010,t010,t010", 4, 10, 0);
        toursAre("t010,t010,t010,t010", 5, 14, 1);
        toursAre("t010,t010,t010,t010", 6, 18, 2);
        toursAre("t019,t119", 7, 0, 7);
        toursAre("t018,t018", 1, 0, 1);
        toursAre("t018,t018", 2, 1, 1);
        toursAre("t018,t018", 3, 3, 1);
        toursAre("t018,t018", 4, 5, 2);
        toursAre("s010,s019", 1, 1, 0);
        toursAre("s010,s019", 2, 3, 0);
        toursAre("s010,s019", 3, 5, 1);
        toursAre("p010,t110", 1, 1, 0);
        toursAre("p010,t110", 2, 3, 0);
        toursAre("p010,t010", 1, 0, 1);
        toursAre("p010,t010", 2, 0, 2);
        toursAre("r018,t110", 2, 3, 0);
        toursAre("r019,t110", 2, 2, 1);
        toursAre("r019,t110", 3, 3, 2);
        toursAre("r019,t010,t110", 2, 2, 1);
        toursAre("l010,t110", 1, 1, 0);
        toursAre("l010,t110", 2, 3, 0);
        toursAre("l010,t210", 1, 2, 0);
        toursAre("t010,p110,t110", 1, 1, 0);
        toursAre("t010,p110,t110", 2, 3, 0);
        toursAre("t010,p110,t110", 3, 6, 0);
        toursAre("t010,t110,t020", 1, 2, 0);
        toursAre("t010,t110,t020", 2, 5, 0);
    }

    /** How many of NEEDS 1 to 9 the only one meets is how STRONG he was drawn. */
    private void toursDraw() {
        KeptVolunteers low = Expect.show("t011,t112,t213,t314,t415;50");
        KeptVolunteers high = Expect.show("t016,t117,t218,t319;50");
        for (int i = 0; i < 200; i++) {
            int seed = i < 100 ? i : MAX - i * 7919;
            long next = (1103515245L * seed + 12345L) % (1L << 31);
            int strong = low.tours(1, seed, 0) + high.tours(1, seed, 0);
            due("3: a DRAW of 10 by SEED " + seed, strong, next / 65536 % 10);
        }
    }

    private void toursAre(String tricks, int nights, int done, int gone) {
        KeptVolunteers x = Expect.show(tricks + ";50");
        due("3: DONE in " + nights + " NIGHTS of " + tricks, x.tours(nights, 0, 0), done);
        due("3: LET GO in " + nights + " NIGHTS of " + tricks, x.tours(nights, 0, 1), gone);
    }

    // ---- what is told of all

    /** In TOWN 5, three of five KEPT (one CALLED up there), two CAST, one held his ROPE twice, two SEEN. */
    private static KeptVolunteers underWay() {
        KeptVolunteers x = Expect.show("t023,p114,s327,l512,r638;7042358051");
        x.cast(0, 0);
        x.night();
        x.night();
        x.letGo(3);
        x.move(false);
        x.letGo(2);
        x.call(3, 6);
        x.cast(2, 3);
        x.see(0, 0, true);
        x.see(4, 2, false);
        return x;
    }

    private void imageKeepsFrom(String what, Consumer<KeptVolunteers> change) {
        KeptVolunteers x = underWay();
        due("25: NIGHTS there were", x.image(), 2);
        long then = x.digest();
        for (int again = 0; again < 2; again++) {
            change.accept(x);
            expect.holds(what + " is seen in the digest", x.digest() != then);
            due("26: NIGHTS there were", x.restore(), 2);
            due("3: an IMAGE keeps " + what, x.digest(), then);
        }
    }

    private void imageKeeps() {
        imageKeepsFrom("PEOPLE: how STRONG", x -> {
            x.letGo(3);
            x.call(3, 7);
        });
        imageKeepsFrom("PEOPLE: the TOWN, how often he held his ROPE", x -> {
            x.move(true);
            x.letGo(0);
            x.move(false);
            x.call(0, 7);
        });
        imageKeepsFrom("who is KEPT", x -> x.letGo(3));
        imageKeepsFrom("who is CALLED", x -> x.call(2, 5));
        imageKeepsFrom("who is CAST", x -> x.cast(4, 0));
        imageKeepsFrom("who is CAST, dropped", x -> x.drop(0, 0));
        imageKeepsFrom("who is CAST, cleared", x -> x.clear());
        imageKeepsFrom("the TOWN, behind 5", x -> x.move(true));
        imageKeepsFrom("the TOWN, ahead of 5", x -> x.move(false));
        imageKeepsFrom("NIGHTS, what was DONE", x -> x.night());
        imageKeepsFrom("SEEN", x -> x.see(1, 1, true));
        imageKeepsFrom("SEEN, forgotten", x -> x.forget());
        imageKeepsFrom("SEEN, other things", x -> {
            x.forget();
            x.see(1, 1, true);
            x.see(2, 2, true);
        });
        imageKeepsFrom("MOVES, all round", x -> {
            for (int i = 0; i < 6; i++) {
                x.move(true);
            }
        });
    }

    private void imageLatest() {
        KeptVolunteers x = Expect.show(FIVE);
        due("25: of none yet", x.image(), 0);
        x.night();
        due("26: back to none", x.restore() + x.count(5), 0);
        x.night();
        due("25: the latest", x.image(), 1);
        x.night();
        x.night();
        due("26: the latest", x.restore(), 1);
        x.night();
        due("26: once more", x.restore(), 1);
        Expect.write(x, "t0");
        due("5: no SHOW", x.show(), STATE);
        due("26: so there is no other since", x.restore(), 1);
        due("26: letters stay", x.blank(), 2);
        Expect.write(x, FIVE);
        x.show();
        due("26: another since, of the same text", x.restore(), STATE);
        due("25: an IMAGE of that", x.image(), 0);
        x.move(true);
        due("26: back to that", x.restore() + x.count(8), 0);
    }

    private void imageLimits() {
        KeptVolunteers x = Expect.show(FIVE);
        for (int i = 1; i <= 98; i++) {
            x.night();
        }
        due("25: 98 NIGHTS", x.image(), 98);
        for (int again = 0; again < 2; again++) {
            due("13: the 99th", x.night(), 0);
            due("13: no 100th", x.night(), FULL);
            due("26: 98 NIGHTS", x.restore(), 98);
        }
        x.night();
        due("25: 99 NIGHTS", x.image() + x.restore(), 198);
        due("13: FULL still", x.night(), FULL);
        x = Expect.show(FIVE);
        for (int i = 0; i < 8; i++) {
            x.see(0, 0, true);
        }
        x.image();
        x.forget();
        x.restore();
        due("22: 8 are SEEN again", x.see(1, 1, true), FULL);
        x = Expect.show(FIVE);
        x.image();
        for (int i = 0; i < 16; i++) {
            x.most(0);
        }
        for (int i = 0; i < 6; i++) {
            x.fewest(0);
            x.spare();
        }
        x.restore();
        due("3: an IMAGE does not keep how often most() was done", x.most(0) + x.count(14), STATE + 16);
        due("3: nor fewest()", x.fewest(0) + x.count(15), STATE + 6);
        due("3: nor spare()", x.spare() + x.count(16), STATE + 6);
    }

    private void nobodyKept() {
        KeptVolunteers x = Expect.show("t010,p110;50");
        x.cast(0, 0);
        due("15: nobody is left", x.letGo(0), 0);
        due("27: nobody is KEPT", x.count(2), 0);
        due("27: a number all the same", x.count(1), 1);
        due("6: nobody FITS", x.trick(0, 7) + x.trick(1, 7), 0);
        due("6: nobody is CAST", x.trick(0, 5) + x.trick(0, 6), 0);
        due("9: nobody to CAST", x.cast(0, 0), STATE);
        due("17: MOST is none", x.most(0) + x.most(10) + x.most(11), 0);
        due("12: none is DONE", x.fill() + x.count(3), 0);
        due("18: with none", x.fewest(0) + x.fewest(1), 2 * NONE);
        due("19: nobody to SPARE", x.spare(), 0);
        due("13: a NIGHT all the same", x.night() + x.count(5), 1);
        due("20: WANTS all the same", x.wants(0) + 10 * x.wants(1), 21);
        due("27: BOUND", x.count(4), 2);
        due("24: TOURS begin with nobody", x.tours(7, 0, 0), Expect.show("t010,p110;50").tours(7, 0, 0));
        due("25: an IMAGE of nobody", x.image(), 1);
        due("16: somebody", x.call(0, 3), 1);
        due("26: nobody again", x.restore() + x.count(2), 1);
    }

    private static long folded(KeptVolunteers x) {
        long h = 1117;
        for (int i = 0; i < x.count(0); i++) {
            for (int what = 0; what <= 8; what++) {
                h = 31 * h + x.trick(i, what);
            }
        }
        int kept = 0;
        for (int i = 0; i < x.count(1); i++) {
            kept |= x.person(i, 2) << i;
            for (int what = 0; what <= 7; what++) {
                h = 31 * h + x.person(i, what);
            }
        }
        for (int hour = 0; hour <= 11 && x.count(0) > 0; hour++) {
            h = 31 * h + x.wants(hour);
        }
        for (int what = 0; what <= 1 && kept != 0; what++) {
            h = 31 * h + x.route(kept, what);
        }
        return h;
    }

    private void digestIs(String sentence, KeptVolunteers x, String page) {
        Expect.write(x, page);
        long h = folded(x);
        for (int i = 0; i < page.length(); i++) {
            h = 31 * h + page.charAt(i);
        }
        for (int what = 0; what <= 16; what++) {
            h = 31 * h + x.count(what);
        }
        due("28: " + sentence, x.digest(), h);
        due("28: it changes nothing: " + sentence, x.digest(), h);
    }

    private void digestFolds() {
        String[] pages = {"", "t", "~" + (char) 1, FIVE + "0"};
        for (String page : pages) {
            digestIs("no SHOW, " + page.length() + " letters", new KeptVolunteers(), page);
            digestIs("a SHOW, " + page.length() + " letters", Expect.show(FIVE), page);
            digestIs("in use, " + page.length() + " letters", underWay(), page);
            KeptVolunteers x = Expect.show("t010,t010;50");
            x.letGo(0);
            digestIs("nobody KEPT, " + page.length() + " letters", x, page);
        }
        long none = 1117;
        for (int i = 0; i < 17; i++) {
            none *= 31;
        }
        due("28: of a new object, wrapping", new KeptVolunteers().digest(), none);
    }

    private void last512() {
        KeptVolunteers x = Expect.show("t010,t010;50");
        for (int i = 1; i <= 499; i++) {
            due("An object is used for at most 512 calls: MOVE " + i, x.move(true), i % 6);
        }
    }
}
