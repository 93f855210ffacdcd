/** Promises 43 to 46 and 48 to 52: notes in truth, seconds, draws, the image, the status. */
public final class TruthTest {
    private static final Due DUE = new Due("TruthTest");
    // The seeds that follow 1, and their draws below 1000: 838, 526, 113, 283.
    private static final int[] SEEDS = {1, 1103527590, -1770082073, 662824084, -999580867};

    public static void main(String[] args) {
        send();
        belowLoss();
        sendAsTheMasterTurns();
        sendTakesTheSurestThen();
        twins();
        notes();
        sixteenNotes();
        suspect();
        suspectOfSeveral();
        waits();
        seed();
        image();
        backForgetsNothingElse();
        shelvesAfterBack();
        status();
        DUE.end();
    }

    private static void send() {
        UnderTheDesks x = Due.classOf("pupil 0 0 0;pupil 4 1 6;pupil 0 2 0;pupil 0 11 0;master 8 8 0");
        DUE.is("43: both draws are high", x.send(0, 2), 1);
        DUE.is("43: two seconds", x.status(6), 2);
        DUE.is("43: two draws", x.status(10), SEEDS[2]);
        DUE.is("43: 113 is below 600", x.send(0, 2), 0);
        DUE.is("43: one second to where it's lost", x.status(6), 3);
        DUE.is("43: one draw", x.status(10), SEEDS[3]);
        DUE.is("43: 283 is below 600", x.send(0, 2), 0);
        DUE.is("43: sent", x.status(7), 3);
        DUE.is("43: came", x.status(8), 1);
        DUE.is("43: no way", x.send(0, 3), -5);
        DUE.is("43: the same", x.send(0, 0), -2);
        DUE.is("43: no pupil", x.send(0, 4), -2);
        DUE.is("43: -1", x.send(-1, 0), -2);
        DUE.is("43: sent still", x.status(7), 3);
        DUE.is("43: no draw", x.status(10), SEEDS[4]);
        DUE.is("43: no second", x.status(6), 4);
        DUE.refusals("43", x, 3, 0, 0, 1, 0);
    }

    private static void belowLoss() {
        UnderTheDesks x = Due.classOf("pupil 0 0 0;pupil 0 1 0;master 1 0 838");
        DUE.is("43: 838 is not below 838", x.send(0, 1), 1);
        x.seed(1);
        x.master(2, 839);
        DUE.is("43: 838 is below 839", x.send(0, 1), 0);
        x.seed(1);
        x.master(2, 0);
        DUE.is("43: nothing to lose", x.send(0, 1), 1);
        DUE.is("43: a draw all the same", x.status(10), SEEDS[1]);
        x.seed(-7);
        x.master(2, 204);
        DUE.is("43: 204 is not below 204", x.send(0, 1), 1);
        DUE.is("43: 129 is below 204", x.send(0, 1), 0);
        DUE.is("43: seeds may be below 0", x.status(10), -2123768417);
        x.seed(0x7FFF0000);
        x.send(0, 1);
        DUE.is("43: wrapping", x.status(10), 0x7FFF0000 * 1103515245 + 12345);
    }

    private static void sendAsTheMasterTurns() {
        UnderTheDesks x = Due.classOf("pupil 0 0 0;pupil 0 1 0;master 3 2 1000");
        DUE.is("43: second 0", x.send(0, 1), 1);
        DUE.is("43: second 1", x.send(1, 0), 1);
        DUE.is("43: second 2, seen", x.send(0, 1), 0);
        DUE.is("43: second 3", x.send(1, 0), 1);
        x.waits(1);
        DUE.is("43: second 5, seen", x.send(1, 0), 0);
        for (int k = 0; k < 20; k++) {
            x.waits(999);
        }
        DUE.is("43: far beyond 9999", x.status(6), 19986);
        DUE.is("43: second 19986", x.send(1, 0), 1);
    }

    private static void sendTakesTheSurestThen() {
        // At 0 the long way is the surest, at 2 the short one, by the good one.
        UnderTheDesks x = Due.classOf("pupil 0 0 0;pupil 0 4 0;pupil 0 5 0;pupil 0 6 0;pupil 0 2 0;pupil 1 1 0;master 8 4 999");
        DUE.is("43: the long way", x.send(0, 4), 1);
        DUE.is("44: the long way", x.note(0), 31);
        DUE.is("43: four seconds", x.status(6), 4);
        x.waits(6);
        x.send(0, 4);
        DUE.is("44: the short way", x.note(1), 1 + 16 + 32);
    }

    private static void twins() {
        UnderTheDesks x = Due.classOf("pupil 5 0 0;pupil 4 1 9;pupil 0 2 0;master 8 8 0");
        DUE.is("43: 838 is below 900", x.send(0, 2), 0);
        DUE.is("43: the hand it's lost at, too", x.status(6), 2);
        x.seed(SEEDS[3]);
        x.master(0, 20);
        DUE.is("43: 283 is below 900", x.send(2, 0), 0);
        DUE.is("43: no twin gave it", x.status(6), 3);
        x.seed(1);
        DUE.is("43: the twin gets it", x.send(1, 0), 1);
        DUE.is("43: he who gives it counts", x.status(6), 4);
        DUE.is("43: the twin gives it", x.send(0, 1), 1);
        DUE.is("43: two more", x.status(6), 6);
    }

    private static void notes() {
        UnderTheDesks x = Due.classOf("pupil 0 0 0;pupil 4 1 6;pupil 0 2 0;pupil 0 3 0;master 8 8 0");
        DUE.is("44: none kept", x.note(-1), 0);
        DUE.is("44: no first", x.note(0), -5);
        DUE.is("45: no first", x.came(0), -5);
        x.send(0, 2);
        x.send(0, 2);
        x.send(3, 2);
        DUE.is("44: three kept", x.note(-1), 3);
        DUE.is("44: the oldest", x.note(0), 7);
        DUE.is("44: lost ahead of the last", x.note(1), 7);
        DUE.is("44: the newest", x.note(2), 12);
        DUE.is("44: not so many", x.note(3), -5);
        DUE.is("44: never so many", x.note(16), -5);
        DUE.is("44: -2", x.note(-2), -2);
        DUE.is("45: the oldest", x.came(0), 1);
        DUE.is("45: lost", x.came(1), 0);
        DUE.is("45: the newest", x.came(2), 1);
        DUE.is("45: not so many", x.came(3), -5);
        DUE.is("45: -1", x.came(-1), -2);
        DUE.refusals("44, 45", x, 2, 0, 0, 5, 0);
    }

    private static void sixteenNotes() {
        UnderTheDesks x = Due.classOf("pupil 0 0 0;pupil 0 1 0;pupil 0 2 0;master 1 0 1000");
        x.send(1, 2);
        for (int k = 1; k < 16; k++) {
            x.send(0, 1);
        }
        DUE.is("44: sixteen", x.note(-1), 16);
        DUE.is("44: the oldest", x.note(0), 6);
        x.master(2, 0);
        x.send(0, 2);
        DUE.is("44: sixteen still", x.note(-1), 16);
        DUE.is("44: the oldest is gone", x.note(0), 3);
        DUE.is("44: the newest", x.note(15), 7);
        DUE.is("45: the oldest", x.came(0), 0);
        DUE.is("45: the last but one", x.came(14), 0);
        DUE.is("45: the newest", x.came(15), 1);
        DUE.is("44: no seventeenth", x.note(16), -5);
        x.send(2, 1);
        DUE.is("44: one place ahead", x.note(14), 7);
        DUE.is("45: one place ahead", x.came(14), 1);
        DUE.is("44: the newest then", x.note(15), 6);
        DUE.is("46: between in the one that came", x.suspect(), -1);
        DUE.is("52: eighteen in all", x.status(7), 18);
        DUE.is("52: two came in all", x.status(8), 2);
    }

    private static void suspect() {
        UnderTheDesks x = Due.classOf("pupil 0 0 0;pupil 4 1 6;pupil 0 2 0;pupil 0 5 0;pupil 0 6 0;master 8 8 0");
        x.bar(0, 3, true);
        DUE.is("46: no notes", x.suspect(), -1);
        x.seed(SEEDS[2]);
        DUE.is("46: 113 is below 600", x.send(0, 2), 0);
        DUE.is("46: he was between", x.suspect(), 1);
        x.seed(1);
        DUE.is("46: now it comes", x.send(0, 2), 1);
        DUE.is("46: he was in one that came", x.suspect(), -1);
        for (int k = 0; k < 15; k++) {
            x.seed(SEEDS[2]);
            x.send(0, 2);
        }
        DUE.is("46: it is kept still", x.suspect(), -1);
        x.seed(SEEDS[2]);
        x.send(0, 2);
        DUE.is("46: it isn't any more", x.suspect(), 1);
        UnderTheDesks z = Due.classOf("pupil 0 0 0;pupil 0 1 0;pupil 0 2 0;pupil 0 3 0;pupil 0 4 0;master 1 0 1000");
        z.send(0, 2);
        for (int k = 0; k < 15; k++) {
            z.send(1, 4);
        }
        DUE.is("46: between fifteen times", z.suspect(), 0);
        z.master(2, 0);
        z.send(1, 4);
        DUE.is("46: came, and the oldest is gone", z.suspect(), -1);
        z.master(2, 1000);
        z.send(1, 3);
        DUE.is("46: one lost", z.suspect(), 2);
        UnderTheDesks y = Due.classOf("pupil 0 0 0;pupil 0 1 0;master 1 0 1000");
        y.send(0, 1);
        DUE.is("46: the ends aren't between", y.suspect(), -1);
    }

    private static void suspectOfSeveral() {
        UnderTheDesks x = Due.classOf("pupil 0 3 0;pupil 0 2 0;pupil 0 1 0;pupil 0 0 0;pupil 0 11 0;master 1 0 1000");
        x.send(3, 0);
        DUE.is("46: the first of several", x.suspect(), 1);
        x.send(3, 1);
        DUE.is("46: in most lost notes", x.suspect(), 2);
        DUE.is("46: behind where it's lost, too", x.note(0), 15);
        x.master(2, 0);
        x.send(3, 1);
        DUE.is("46: in one that came", x.suspect(), 1);
        x.send(0, 2);
        DUE.is("46: none is left", x.suspect(), -1);
        x.master(2, 1000);
        x.move(4, 7);
        x.send(4, 1);
        DUE.is("46: another's note", x.suspect(), 0);
    }

    private static void waits() {
        UnderTheDesks x = new UnderTheDesks();
        DUE.is("48: waits(1)", x.waits(1), 1);
        DUE.is("48: waits(999)", x.waits(999), 1000);
        DUE.is("48: waits(0)", x.waits(0), -2);
        DUE.is("48: waits(1000)", x.waits(1000), -2);
        DUE.is("48: waits(-1)", x.waits(-1), -2);
        DUE.is("48: status(6)", x.status(6), 1000);
        DUE.refusals("48", x, 3, 0, 0, 0, 0);
    }

    private static void seed() {
        UnderTheDesks x = new UnderTheDesks();
        DUE.is("49: seed(-5)", x.seed(-5), 1);
        DUE.is("49: seed(0)", x.seed(0), -5);
        DUE.is("49: seed(MAX)", x.seed(Integer.MAX_VALUE), 0);
        DUE.is("49: seed(MIN)", x.seed(Integer.MIN_VALUE), Integer.MAX_VALUE);
        DUE.is("49: status(10)", x.status(10), Integer.MIN_VALUE);
        DUE.refusals("49", x, 0, 0, 0, 0, 0);
    }

    private static void image() {
        UnderTheDesks x = Due.classOf("rows 4;pupil 2 0 3;pupil 0 1 0;bar 0 1;master 9 5 77");
        x.bar(0, 1, false);
        x.send(0, 1);
        x.waits(40);
        DUE.is("51: nothing was", x.back(), -5);
        DUE.is("50: image()", x.image(), 1);
        int[] kept = new int[12];
        for (int what = 0; what < 12; what++) {
            kept[what] = x.status(what);
        }
        for (int time = 0; time < 2; time++) {
            x.pupil(3, 2, 1);
            x.move(0, 15);
            x.bar(0, 2, true);
            x.master(0, 3);
            x.master(2, 1000);
            x.waits(2);
            x.send(1, 2);
            x.seed(99);
            DUE.is("51: back()", x.back(), 1);
            for (int what = 0; what < 12; what++) {
                DUE.is("51: status(" + what + ")", x.status(what), kept[what]);
            }
            DUE.is("51: kind", x.pupilOf(0, 0), 2);
            DUE.is("51: desk", x.pupilOf(0, 1), 0);
            DUE.is("51: a", x.pupilOf(0, 2), 3);
            DUE.is("51: neighbours", x.pupilOf(0, 3), 2);
            DUE.is("51: barred", x.pupilOf(0, 4), 0);
            DUE.is("51: notes", x.note(-1), 1);
            DUE.is("51: the note", x.note(0), 3);
            DUE.is("51: it came", x.came(0), 1);
            DUE.is("51: nobody there", x.at(15), -1);
        }
        notesOfAnImage();
        DUE.is("50: a newer image", x.image(), 1);
        x.pupil(0, 3, 0);
        x.image();
        x.move(2, 4);
        x.back();
        DUE.is("51: the newest counts", x.pupilOf(2, 1), 3);
    }

    private static void notesOfAnImage() {
        UnderTheDesks x = Due.classOf("pupil 0 0 0;pupil 0 1 0;pupil 0 2 0;master 1 0 1000");
        x.send(0, 2);
        for (int k = 0; k < 15; k++) {
            x.send(0, 1);
        }
        x.image();
        x.master(2, 0);
        for (int k = 0; k < 16; k++) {
            x.send(1, 2);
        }
        DUE.is("51: all came", x.came(0), 1);
        DUE.is("51: no suspect", x.suspect(), -1);
        x.back();
        DUE.is("51: the oldest note", x.note(0), 7);
        DUE.is("51: it's lost", x.came(0), 0);
        DUE.is("51: the newest note", x.note(15), 3);
        DUE.is("51: the suspect", x.suspect(), 1);
        DUE.is("51: sent in all", x.status(7), 16);
    }

    private static void backForgetsNothingElse() {
        UnderTheDesks x = new UnderTheDesks();
        DUE.is("51: nothing was", x.back(), -5);
        x.image();
        Due.fill(x, 0, 2, 5, 6);
        Due.feed(x, "rows");
        x.rows(4);
        x.rows(9);
        DUE.is("51: back()", x.back(), 1);
        DUE.is("51: rows", x.status(0), 3);
        DUE.is("51: the tape stays", x.status(9), 4);
        DUE.is("51: a row stays", x.element(0, 1), 6);
        DUE.is("51: shelves in use", x.status(11), 1);
        DUE.refusals("51: refusals stay", x, 1, 0, 0, 1, 0);
        x.pupil(0, 0, 0);
        DUE.is("51: of nobody", x.back(), 1);
        DUE.is("51: nobody", x.status(1), 0);
        Due.feed(x, " 2");
        DUE.is("51: the tape goes on", x.school(), 1);
    }

    private static void shelvesAfterBack() {
        UnderTheDesks x = Due.classOf("pupil 2 0 3");
        x.image();
        x.pupil(3, 1, 4);
        x.show(0, 1);
        x.show(7, 1);
        x.back();
        DUE.is("51: no such number, first shelf", x.holds(0), -1);
        DUE.is("51: no such number, last shelf", x.holds(7), -1);
        x.pupil(3, 1, 4);
        x.show(0, 0);
        x.show(1, 1);
        x.row(2, 1, 3);
        x.move(0, 8);
        x.back();
        DUE.is("51: the same number", x.holds(0), 10);
        DUE.is("51: he sits where he sat", x.says(0, 0), 0);
        DUE.is("51: no such number", x.holds(1), -1);
        DUE.is("51: a row", x.holds(2), 1);
        DUE.is("51: shelves in use", x.status(11), 2);
        x.pupil(4, 2, 5);
        DUE.is("51: a new pupil is not on it", x.holds(1), -1);
        DUE.is("51: nothing says nothing", x.says(1, 0), -4);
    }

    private static void status() {
        UnderTheDesks x = Due.classOf("rows 4;pupil 0 0 0;pupil 0 1 0;pupil 0 2 0;bar 0 2;bar 1 0;master 11 10 9");
        x.bar(0, 1, false);
        x.send(0, 1);
        x.waits(5);
        x.seed(42);
        Due.feed(x, "abc");
        x.row(0, 0, 0);
        x.show(7, 1);
        int[] due = {4, 3, 1, 11, 10, 9, 6, 1, 1, 3, 42, 2, 0, 0, 0, 0, 0, -1};
        for (int what = 0; what < due.length; what++) {
            DUE.is("52: status(" + what + ")", x.status(what), due[what]);
        }
        DUE.is("52: status(-1)", x.status(-1), -1);
        DUE.is("52: status(MAX)", x.status(Integer.MAX_VALUE), -1);
        DUE.is("52: status(MIN)", x.status(Integer.MIN_VALUE), -1);
        x.set(7, 0, 0);
        x.set(1, 0, 0);
        x.set(1, 0, 0);
        x.rows(2);
        x.rows(2);
        x.rows(2);
        x.rows(0);
        x.school();
        x.wipe();
        DUE.refusals("52", x, 2, 1, 2, 3, 0);
    }
}
