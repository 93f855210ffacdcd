/** Counts and prints the answers that are not the ones due. */
final class Due {
    private final String test;
    private int wrong = 0;
    private int asked = 0;

    Due(String test) {
        this.test = test;
    }

    void is(String what, long got, long want) {
        asked++;
        if (got != want) {
            wrong++;
            System.out.println(test + ": " + what + " answered " + got + ", due is " + want);
        }
    }

    /** Asks for all that a refused call must have left as it was, and counts the refusals from -2 to -6. */
    void refusals(String what, UnderTheDesks desks, int... counts) {
        for (int k = 0; k < counts.length; k++) {
            is(what + ", refusals of " + (-2 - k), desks.status(12 + k), counts[k]);
        }
    }

    void end() {
        System.out.println(test + ": " + (asked - wrong) + " of " + asked + " answers are as due");
        System.exit(wrong == 0 ? 0 : 1);
    }

    /** A class told by the tape. */
    static UnderTheDesks classOf(String text) {
        UnderTheDesks desks = new UnderTheDesks();
        if (school(desks, text) < 0) {
            throw new IllegalStateException("a fault in the test's own class: " + text);
        }
        return desks;
    }

    static int school(UnderTheDesks desks, String text) {
        feed(desks, text);
        return desks.school();
    }

    static void feed(UnderTheDesks desks, String text) {
        for (int i = 0; i < text.length(); i++) {
            desks.feed(text.charAt(i));
        }
    }

    static void fill(UnderTheDesks desks, int shelf, int sort, long... elements) {
        desks.row(shelf, sort, elements.length);
        for (int i = 0; i < elements.length; i++) {
            desks.set(shelf, i, elements[i]);
        }
    }
}
