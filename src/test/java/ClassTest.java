/** Promises 9 to 18, 28 to 31 and 47: rows, pupils, the master, the tape and what there is. */
public final class ClassTest {
    private static final Due DUE = new Due("ClassTest");

    public static void main(String[] args) {
        rows();
        pupil();
        bar();
        move();
        master();
        feedAndWipe();
        school();
        schoolAddsToWhatThereIs();
        faults();
        faultsOfAClass();
        allOrNothing();
        pupilOfAndAt();
        crowdAndEdges();
        inRow();
        swap();
        DUE.end();
    }

    private static void rows() {
        UnderTheDesks x = new UnderTheDesks();
        DUE.is("9: rows(2)", x.rows(2), 3);
        DUE.is("9: desk 8 of 2 rows", x.at(8), -2);
        DUE.is("9: rows(4)", x.rows(4), 2);
        DUE.is("9: desk 15 of 4 rows", x.at(15), -1);
        DUE.is("9: rows(4) again", x.rows(4), 4);
        DUE.is("9: rows(1)", x.rows(1), -2);
        DUE.is("9: rows(5)", x.rows(5), -2);
        x.pupil(0, 15, 0);
        DUE.is("9: rows(5) with a pupil", x.rows(5), -2);
        DUE.is("9: rows(4) with a pupil", x.rows(4), -5);
        DUE.is("9: status(0)", x.status(0), 4);
        DUE.refusals("9", x, 4, 0, 0, 1, 0);
    }

    private static void pupil() {
        UnderTheDesks x = new UnderTheDesks();
        x.rows(4);
        for (int p = 0; p < 12; p++) {
            DUE.is("10: pupil " + p, x.pupil(p % 6, p, p % 10), p);
        }
        DUE.is("10: a taken desk of a full class", x.pupil(0, 3, 0), -5);
        DUE.is("10: full", x.pupil(0, 12, 0), -6);
        DUE.is("10: desk 16", x.pupil(0, 16, 0), -2);
        DUE.is("10: desk -1", x.pupil(0, -1, 0), -2);
        DUE.is("10: kind 6", x.pupil(6, 12, 0), -2);
        DUE.is("10: kind -1", x.pupil(-1, 12, 0), -2);
        DUE.is("10: a 10", x.pupil(0, 3, 10), -2);
        DUE.is("10: a -1", x.pupil(0, 3, -1), -2);
        DUE.is("10: status(1)", x.status(1), 12);
        DUE.is("10: kind of 11", x.pupilOf(11, 0), 5);
        DUE.is("10: desk of 11", x.pupilOf(11, 1), 11);
        DUE.is("10: a of 11", x.pupilOf(11, 2), 1);
        DUE.refusals("10", x, 6, 0, 0, 1, 1);
    }

    private static void bar() {
        UnderTheDesks x = Due.classOf("pupil 0 0 0;pupil 0 1 0;pupil 0 11 0");
        DUE.is("11: bar(1, 0, false)", x.bar(1, 0, false), 0);
        DUE.is("11: bar(1, 0, true)", x.bar(1, 0, true), 1);
        DUE.is("11: bar(0, 1, true)", x.bar(0, 1, true), 0);
        DUE.is("11: far apart", x.bar(0, 2, true), 1);
        DUE.is("11: status(2)", x.status(2), 2);
        DUE.is("11: barred with 0", x.pupilOf(0, 4), 6);
        DUE.is("11: barred with 1", x.pupilOf(1, 4), 1);
        DUE.is("11: no neighbours", x.pupilOf(0, 3) + x.pupilOf(1, 3), 0);
        DUE.is("11: bar(0, 1, false)", x.bar(0, 1, false), 1);
        DUE.is("11: neighbours", x.pupilOf(0, 3), 2);
        DUE.is("11: neighbours, the other", x.pupilOf(1, 3), 1);
        DUE.is("11: status(2) then", x.status(2), 1);
        DUE.is("11: the same", x.bar(1, 1, true), -2);
        DUE.is("11: no pupil", x.bar(0, 3, true), -2);
        DUE.is("11: -1", x.bar(-1, 0, false), -2);
        DUE.refusals("11", x, 3, 0, 0, 0, 0);
    }

    private static void move() {
        UnderTheDesks x = Due.classOf("pupil 0 0 0;pupil 0 1 0");
        DUE.is("12: move(0, 11)", x.move(0, 11), 0);
        DUE.is("12: where he is", x.at(11), 0);
        DUE.is("12: where he was", x.at(0), -1);
        DUE.is("12: neighbours", x.pupilOf(1, 3), 0);
        DUE.is("12: taken", x.move(0, 1), -5);
        DUE.is("12: his own", x.move(0, 11), -5);
        DUE.is("12: desk 12", x.move(0, 12), -2);
        DUE.is("12: desk -1", x.move(0, -1), -2);
        DUE.is("12: no pupil", x.move(2, 1), -2);
        DUE.is("12: back", x.move(0, 5), 11);
        DUE.is("12: below", x.pupilOf(1, 3), 1);
        DUE.refusals("12", x, 3, 0, 0, 2, 0);
    }

    private static void master() {
        UnderTheDesks x = new UnderTheDesks();
        DUE.is("13: master(1, 9)", x.master(1, 9), -2);
        DUE.is("13: master(1, 8)", x.master(1, 8), 4);
        DUE.is("13: master(0, 20)", x.master(0, 20), 8);
        DUE.is("13: BACK stays", x.status(4), 8);
        DUE.is("13: master(0, 5)", x.master(0, 5), 20);
        DUE.is("13: BACK is TERM at most", x.status(4), 5);
        DUE.is("13: master(0, 1)", x.master(0, 1), 5);
        DUE.is("13: master(1, 0)", x.master(1, 0), 1);
        DUE.is("13: master(2, 0)", x.master(2, 0), 300);
        DUE.is("13: master(2, 1000)", x.master(2, 1000), 0);
        DUE.is("13: master(0, 0)", x.master(0, 0), -2);
        DUE.is("13: master(0, 21)", x.master(0, 21), -2);
        DUE.is("13: master(1, -1)", x.master(1, -1), -2);
        DUE.is("13: master(1, 2)", x.master(1, 2), -2);
        DUE.is("13: master(2, -1)", x.master(2, -1), -2);
        DUE.is("13: master(2, 1001)", x.master(2, 1001), -2);
        DUE.is("13: master(3, 1)", x.master(3, 1), -2);
        DUE.is("13: master(-1, 1)", x.master(-1, 1), -2);
        DUE.is("13: TERM, BACK, EYE", 10000 * x.status(3) + 2000 * x.status(4) + x.status(5), 11000);
        DUE.refusals("13", x, 9, 0, 0, 0, 0);
    }

    private static void feedAndWipe() {
        UnderTheDesks x = new UnderTheDesks();
        DUE.is("14: feed(0)", x.feed(0), 1);
        DUE.is("14: feed(255)", x.feed(255), 2);
        DUE.is("14: feed(256)", x.feed(256), -2);
        DUE.is("14: feed(-1)", x.feed(-1), -2);
        DUE.is("15: wipe()", x.wipe(), 2);
        DUE.is("15: wipe() again", x.wipe(), 0);
        for (int i = 1; i <= 250; i++) {
            DUE.is("14: byte " + i, x.feed(32), i);
        }
        DUE.is("14: full", x.feed(32), -6);
        DUE.is("14: full, and no byte", x.feed(256), -2);
        DUE.is("52: the tape's size", x.status(9), 250);
        DUE.is("16: blanks alone", x.school(), -270);
        DUE.is("16: the tape is empty", x.status(9), 0);
        DUE.refusals("14, 16", x, 4, 0, 0, 0, 1);
    }

    private static void school() {
        UnderTheDesks x = new UnderTheDesks();
        DUE.is("16: a class", Due.school(x, "rows 4;pupil 4 15 9; pupil0 00140 ;pupil 5 3 1;bar 0 1;move 2 11;master 9 3 77"),
            -48);
        DUE.is("16: a class", Due.school(x, "rows 4;pupil 4 15 9; pupil0 0014 0 ;pupil 5 3 1;bar 0 1;move 2 11;master 9 3 77"),
            7);
        int[] due = {4, 3, 1, 9, 3, 77, 0, 0, 0, 0};
        for (int what = 0; what < due.length; what++) {
            DUE.is("16: status(" + what + ")", x.status(what), due[what]);
        }
        DUE.is("16: kind of 0", x.pupilOf(0, 0), 4);
        DUE.is("16: a of 0", x.pupilOf(0, 2), 9);
        DUE.is("16: desk of 1", x.pupilOf(1, 1), 14);
        DUE.is("16: barred with 0", x.pupilOf(0, 4), 2);
        DUE.is("16: desk of 2", x.pupilOf(2, 1), 11);
        DUE.is("16: neighbours of 0", x.pupilOf(0, 3), 4);
    }

    private static void schoolAddsToWhatThereIs() {
        UnderTheDesks x = Due.classOf("pupil 0 0 0");
        DUE.is("16: one more", Due.school(x, "pupil 1 1 1"), 1);
        DUE.is("16: both are there", x.status(1), 2);
        DUE.is("16: barred twice is no fault", Due.school(x, "bar 1 0;bar 0 1"), 2);
        DUE.is("16: one pair", x.status(2), 1);
        DUE.is("16: moved twice", Due.school(x, "move 0 11;move 1 0;move 0 1"), 3);
        DUE.is("16: where they are", 10 * x.at(0) + x.at(1), 10);
        DUE.is("16: rows twice", Due.school(new UnderTheDesks(), "rows 2;rows 4;rows 3"), 3);
        DUE.is("16: no blanks", Due.school(new UnderTheDesks(), "rows2;pupil0 7 9;master1 1 0"), 3);
        DUE.is("16: blanks all over", Due.school(new UnderTheDesks(), "  rows   2  ;  master  1   0   0000 "), 2);
        DUE.refusals("16", x, 0, 0, 0, 0, 0);
    }

    /** A text, and in it a ^ ahead of the token at fault (behind all: it ends too early). */
    private static void fault(UnderTheDesks x, String marked) {
        String text = marked.replace("^", "");
        int before = x.status(12);
        DUE.is("16: " + marked, Due.school(x, text), -20 - marked.indexOf('^'));
        DUE.is("16: refused " + marked, x.status(12), before + 1);
        DUE.is("16: wiped " + marked, x.status(9), 0);
    }

    private static void faults() {
        String[] texts = {
            "^", "   ^", "^;", "^5", "^row 3", "^rowss 3", "^rowsz 3", "^arows 3", "^xows 3", "^cupil 0 0 0", "^row", "rows ^z", "^Rows 3", "^rOws 3", "^r", "rows^", "rows ^;", "rows ^rows", "rows ^1",
            "rows ^5", "rows ^00003", "rows 0003 ^3", "rows ^-3", "rows 3 ^,", "rows 3;^", "rows 3; ^", "rows 3;^;",
            "rows 3 ^rows 3", "^\t rows 3", "rows 3^\n", "rows 3^\u00e9", "pupil ^6 99 99", "pupil 0 ^12 0", "pupil 0 11 ^10",
            "rows 4;pupil 0 15 0;pupil 0 ^16 0", "pupil 0 0^", "pupil 0 0 ^;", "pupil 0 0 0 ^0", "pupil 0 ^x 0",
            "pupil 0 0 0;^rows 3", "pupil 0 0 0;^rows", "pupil 0 0 0;^rows 9", "pupil 0 1 0;pupil 0 ^1 99",
            "bar ^0 0", "pupil 0 0 0;bar 0 ^0", "pupil 0 0 0;bar 0 ^1", "pupil 0 0 0;bar ^1 1",
            "pupil 0 0 0;move 0 ^0", "pupil 0 0 0;move 0 ^12", "pupil 0 0 0;move ^1 0", "pupil 0 0 0;pupil 0 1 0;move 1 ^0",
            "master ^0 0 0", "master ^21 0 0", "master 5 ^6 0", "master 5 5 ^1001", "master 20 20 1000 ^1", "master ^99999 0 0",
            "master 1 1^", "master 9 ^10 2000", "rows 4;^nobody"};
        for (String text : texts) {
            fault(new UnderTheDesks(), text);
        }
    }

    private static void faultsOfAClass() {
        UnderTheDesks x = Due.classOf("rows 4");
        for (int p = 0; p < 11; p++) {
            x.pupil(0, p, 0);
        }
        fault(x, "pupil 0 11 0;^pupil 9 99 99");
        fault(x, "pupil 0 11 0;^pupil");
        DUE.is("16: nothing came of it", x.status(1), 11);
        DUE.is("16: the twelfth", Due.school(x, "pupil 0 11 0"), 1);
        fault(x, "^pupil 0 12 0");
        fault(x, "^rows 4");
        DUE.is("16: a full class's other statements", Due.school(x, "move 11 12;bar 11 10"), 2);
    }

    private static void allOrNothing() {
        UnderTheDesks x = Due.classOf("pupil 0 0 0;pupil 0 1 0");
        fault(x, "bar 0 1;move 0 4;master 2 1 5;pupil 0 0 0;pupil 0 9 ^10");
        DUE.is("16: pupils", x.status(1), 2);
        DUE.is("16: barred", x.status(2), 0);
        DUE.is("16: TERM", x.status(3), 8);
        DUE.is("16: BACK", x.status(4), 4);
        DUE.is("16: EYE", x.status(5), 300);
        DUE.is("16: desk", x.pupilOf(0, 1), 0);
        DUE.is("16: neighbours", x.pupilOf(0, 3), 2);
        UnderTheDesks y = new UnderTheDesks();
        fault(y, "rows 2;^;");
        DUE.is("16: rows", y.status(0), 3);
    }

    private static void pupilOfAndAt() {
        UnderTheDesks x = Due.classOf("pupil 3 5 7;pupil 0 1 0;pupil 0 4 0;pupil 0 6 0;pupil 0 9 0;pupil 0 7 0;bar 0 4;bar 0 5");
        DUE.is("17: kind", x.pupilOf(0, 0), 3);
        DUE.is("17: desk", x.pupilOf(0, 1), 5);
        DUE.is("17: a", x.pupilOf(0, 2), 7);
        DUE.is("17: neighbours", x.pupilOf(0, 3), 2 + 4 + 8);
        DUE.is("17: barred", x.pupilOf(0, 4), 16 + 32);
        DUE.is("17: what 5", x.pupilOf(0, 5), -2);
        DUE.is("17: what -1", x.pupilOf(0, -1), -2);
        DUE.is("17: no pupil", x.pupilOf(6, 0), -2);
        DUE.is("17: -1", x.pupilOf(-1, 0), -2);
        DUE.is("17: desks 3 and 4 aren't beside each other", x.move(3, 3) + 100 * x.pupilOf(2, 3), 6 + 100);
        DUE.is("18: at(5)", x.at(5), 0);
        DUE.is("18: at(3)", x.at(3), 3);
        DUE.is("18: at(6)", x.at(6), -1);
        DUE.is("18: at(12)", x.at(12), -2);
        DUE.is("18: at(-1)", x.at(-1), -2);
        DUE.refusals("17, 18", x, 6, 0, 0, 0, 0);
    }

    private static void crowdAndEdges() {
        UnderTheDesks x = new UnderTheDesks();
        DUE.is("28: nobody", x.crowd(), -5);
        DUE.is("30: nobody", x.edges(), 0);
        DUE.is("31: nobody", x.lonely(), 0);
        x = Due.classOf("pupil 0 0 0;pupil 0 1 0;pupil 0 2 0;pupil 0 5 0;pupil 0 6 0;pupil 0 11 0");
        DUE.is("28: the first of several", x.crowd(), 1);
        DUE.is("30: edges", x.edges(), 5);
        DUE.is("31: lonely", x.lonely(), 32);
        x.bar(1, 2, true);
        x.bar(1, 0, true);
        DUE.is("28: barred ones don't count", x.crowd(), 3);
        DUE.is("30: nor here", x.edges(), 3);
        DUE.is("31: nor here", x.lonely(), 33);
        DUE.refusals("28, 30, 31", x, 0, 0, 0, 0, 0);
    }

    private static void inRow() {
        UnderTheDesks x = Due.classOf("rows 2;pupil 0 0 0;pupil 0 3 0;pupil 0 4 0;pupil 0 7 0");
        DUE.is("29: inRow(0)", x.inRow(0), 3);
        DUE.is("29: inRow(1)", x.inRow(1), 12);
        DUE.is("29: inRow(2)", x.inRow(2), -2);
        DUE.is("29: inRow(-1)", x.inRow(-1), -2);
        DUE.is("29: an empty row", Due.classOf("rows 4").inRow(3), 0);
        DUE.refusals("29", x, 2, 0, 0, 0, 0);
    }

    private static void swap() {
        UnderTheDesks x = Due.classOf("pupil 0 0 0;pupil 0 1 0;pupil 0 2 0");
        DUE.is("47: swap(0, 1)", x.swap(0, 1), 1);
        DUE.is("47: where they are", 10 * x.pupilOf(0, 1) + x.pupilOf(1, 1), 10);
        DUE.is("47: neighbours of 2", x.pupilOf(2, 3), 1);
        DUE.is("47: swap(2, 2)", x.swap(2, 2), 0);
        DUE.is("47: swap(3, 3)", x.swap(3, 3), -2);
        DUE.is("47: swap(0, 3)", x.swap(0, 3), -2);
        DUE.is("47: swap(-1, 0)", x.swap(-1, 0), -2);
        x.bar(0, 2, true);
        x.swap(0, 1);
        x.swap(1, 0);
        DUE.is("47: barred as they were", x.pupilOf(0, 4), 4);
        DUE.is("47: neighbours then", x.pupilOf(0, 3), 2);
        DUE.refusals("47", x, 3, 0, 0, 0, 0);
    }
}
