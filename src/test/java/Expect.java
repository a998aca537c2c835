/** Counts and prints answers that are not as due; shared by the project's tests. */
final class Expect {
    private final String test;
    private int asked;
    private int wrong;

    Expect(String test) {
        this.test = test;
    }

    void due(String call, long got, long want) {
        asked++;
        if (got != want) {
            wrong++;
            System.out.println(test + ": " + call + " answered " + got + ", due is " + want);
        }
    }

    void holds(String what, boolean so) {
        due(what, so ? 1 : 0, 1);
    }

    void end() {
        System.out.println(test + ": " + asked + " asked, " + wrong + " wrong");
        if (wrong != 0 || asked == 0) {
            System.exit(1);
        }
    }

    /** An object whose page has this text. */
    static KeptVolunteers page(String text) {
        KeptVolunteers x = new KeptVolunteers();
        write(x, text);
        return x;
    }

    static void write(KeptVolunteers x, String text) {
        for (int i = 0; i < text.length(); i++) {
            x.letter(text.charAt(i));
        }
    }

    /** An object with this text as its show. */
    static KeptVolunteers show(String text) {
        KeptVolunteers x = page(text);
        if (x.show() < 0) {
            throw new IllegalStateException("no show: " + text);
        }
        return x;
    }
}
