/** What wraps around or is cut: what is put into rows, draws, seconds against the TERM, losses, chances, codes. */
public final class CutWrapTest {
    private static final Due DUE = new Due("CutWrapTest");
    private static final Script SCRIPT = new Script(DUE);
    private static final int FACTOR = 1103515245;
    private static final int STEP = 12345;
    private static final String SNAKE = "rows(4) pupil(0,0,0) pupil(0,1,0) pupil(0,2,0) pupil(0,3,0) pupil(0,7,0) pupil(0,11,0) "
        + "pupil(0,10,0) pupil(0,9,0) pupil(0,8,0) pupil(0,12,0) ";

    public static void main(String[] args) {
        lowestBits();
        keptAsTheyWere();
        upperBits();
        seeds();
        oneDrawEachHand();
        secondsOfTheTerm();
        secondsInTruth();
        chancesCut();
        lossesCut();
        bothCut();
        lettersRound();
        backWithTheTerm();
        DUE.end();
    }

    /** What is put into a row of a sort, and what is told of it. */
    private static void put(int sort, long... putAndTold) {
        StringBuilder calls = new StringBuilder("row(7," + sort + ",1) ");
        for (int k = 0; k < putAndTold.length; k += 2) {
            calls.append("set(7,0,").append(putAndTold[k]).append(")=1 element(7,0)=").append(putAndTold[k + 1]).append(' ');
        }
        SCRIPT.run("3: sort " + sort, calls.toString());
    }

    private static void lowestBits() {
        put(0, 127, 127, 128, -128, 255, -1, 256, 0, 257, 1, -128, -128, -129, 127, -256, 0, Long.MAX_VALUE, -1, Long.MIN_VALUE, 0,
            4294967296L, 0, 32767, -1, 65535, -1, 0, 0);
        put(1, 32767, 32767, 32768, -32768, 65535, -1, 65536, 0, 65537, 1, -32768, -32768, -32769, 32767, -65536, 0, 128, 128,
            Long.MAX_VALUE, -1, Long.MIN_VALUE, 0, 4294967296L, 0, 0, 0);
        put(2, 2147483647L, 2147483647L, 2147483648L, -2147483648L, 4294967295L, -1, 4294967296L, 0, 4294967297L, 1, -2147483648L,
            -2147483648L, -2147483649L, 2147483647L, 32768, 32768, Long.MAX_VALUE, -1, Long.MIN_VALUE, 0, 0, 0);
        put(3, 2147483648L, 2147483648L, 4294967296L, 4294967296L, Long.MAX_VALUE, Long.MAX_VALUE, Long.MIN_VALUE, Long.MIN_VALUE, -1, -1,
            0, 0);
        put(4, 1, 1, 0, 0, 2, 1, 256, 1, 65536, 1, 4294967296L, 1, -1, 1, Long.MAX_VALUE, 1, Long.MIN_VALUE, 1, 0, 0);
    }

    private static void keptAsTheyWere() {
        SCRIPT.run("4", "row(0,3,2) row(1,3,2) set(0,0,MIN) set(0,1,MAX) copy(0,1,0,0,2)=2 element(1,0)=" + Long.MIN_VALUE + " element(1,1)="
            + Long.MAX_VALUE + " set(0,0,0) element(1,0)=" + Long.MIN_VALUE);
        SCRIPT.run("4: forth in itself", "row(0,0,4) set(0,0,1) set(0,1,2) set(0,2,3) set(0,3,4) copy(0,0,0,1,3)=3 element(0,0)=1 element(0,1)=1 "
            + "element(0,2)=2 element(0,3)=3");
        SCRIPT.run("4: back in itself", "row(0,0,4) set(0,0,1) set(0,1,2) set(0,2,3) set(0,3,4) copy(0,0,1,0,3)=3 element(0,0)=2 element(0,1)=3 "
            + "element(0,2)=4 element(0,3)=4");
    }

    /** The seed that is followed by another. */
    private static int seedAhead(int next) {
        int inverse = 1;
        for (int k = 0; k < 5; k++) {
            inverse *= 2 - FACTOR * inverse;
        }
        return (next - STEP) * inverse;
    }

    /** A hand with a LOSS, when the upper 16 bits of the next seed are told: lost, if they modulo 1000 are below it. */
    private static void draw(int upper, int lower, int lossOf, int due) {
        int next = upper << 16 | lower;
        SCRIPT.run("43: upper bits " + upper, Script.seated(0, 1) + "master(1,0) master(2," + lossOf + ") seed(" + seedAhead(next)
            + ") send(0,1)=" + due + " status(10)=" + next + " came(0)=" + due);
    }

    private static void upperBits() {
        for (int lower : new int[] {0, 1, 0x8000, 0xFFFF}) {
            draw(0, lower, 0, 1);
            draw(0, lower, 1, 0);
            draw(1, lower, 1, 1);
            draw(1, lower, 2, 0);
            draw(999, lower, 999, 1);
            draw(999, lower, 1000, 0);
            draw(1000, lower, 0, 1);
            draw(1000, lower, 1, 0);
            draw(1999, lower, 999, 1);
            draw(32767, lower, 767, 1);
            draw(32767, lower, 768, 0);
            draw(32768, lower, 768, 1);
            draw(32768, lower, 769, 0);
            draw(65000, lower, 1, 0);
            draw(65535, lower, 535, 1);
            draw(65535, lower, 536, 0);
        }
    }

    private static void seeds() {
        int[] seeds = {0, 1, -1, 2, Integer.MAX_VALUE, Integer.MIN_VALUE, 12345, -12345, 0x10000, 0x8000_0001};
        for (int seed : seeds) {
            long next = (int) ((long) seed * FACTOR + STEP);
            SCRIPT.run("43: wrapping", Script.seated(0, 1) + "master(1,0) master(2,0) seed(" + seed + ")=1 status(10)=" + seed
                + " send(0,1)=1 status(10)=" + next + " seed(7)=" + next + " status(10)=7");
        }
    }

    private static void oneDrawEachHand() {
        // The draws from seed 1 on: 838, 526, 113, 283.
        String line = Script.seated(0, 3) + "master(1,0) ";
        SCRIPT.run("43", line + "master(2,0) send(0,3)=1 status(10)=662824084 status(6)=3");
        SCRIPT.run("43: lost in the first hand", line + "master(2,839) send(0,3)=0 status(10)=1103527590 status(6)=1");
        SCRIPT.run("43: lost in the second", line + "master(2,838) send(0,3)=0 status(10)=-1770082073 status(6)=2");
        SCRIPT.run("43: lost in the second", line + "master(2,527) send(0,3)=0 status(10)=-1770082073 status(6)=2");
        SCRIPT.run("43: lost in the last", line + "master(2,526) send(0,3)=0 status(10)=662824084 status(6)=3 master(2,114) seed(1) send(0,3)=0");
        SCRIPT.run("43: 113 is not below 113", line + "master(2,113) send(0,3)=1 status(10)=662824084 status(6)=3 note(0)=15 came(0)=1");
    }

    private static void secondsOfTheTerm() {
        String line = Script.seated(0, 2);
        // Hands begin at s and s + 1; 8 is 0 again.
        SCRIPT.run("22", line + "surest(0,2,0,-1)=1000000 surest(0,2,2,-1)=1000000 surest(0,2,3,-1)=700000 surest(0,2,4,-1)=490000 "
            + "surest(0,2,6,-1)=490000 surest(0,2,7,-1)=700000 surest(0,2,8,-1)=1000000 surest(0,2,15,-1)=700000 surest(0,2,9998,-1)=490000 "
            + "surest(0,2,9999,-1)=700000");
        SCRIPT.run("24", line + "unseen(0,2,0,-1)=1000000 unseen(0,2,2,-1)=1000000 unseen(0,2,3,-1)!-5 unseen(0,2,7,-1)!-5 unseen(0,2,8,-1)=1000000 "
            + "unseen(0,2,9992,-1)=1000000 unseen(0,2,9994,-1)=1000000 unseen(0,2,9995,-1)!-5 unseen(0,2,9999,-1)!-5");
        SCRIPT.run("33: back beyond 9999", line + "answer(0,2,9992)=1000000 answer(0,2,9996)=240100 answer(0,2,9997)=343000 "
            + "answer(0,2,9998)=490000 answer(0,2,9994)=490000 answer(0,2,9995)=343000");
        // A twin's hand takes two: the next begins at s + 2.
        String twin = "pupil(5,0,0) pupil(0,1,0) pupil(0,2,0) row(0,0,3) set(0,1,1) set(0,2,2) ";
        SCRIPT.run("22, 39: a twin", twin + "surest(0,2,1,-1)=1000000 surest(0,2,2,-1)=700000 surest(0,2,3,-1)=700000 surest(0,2,6,-1)=700000 "
            + "told(0,3,0,1)=3 told(0,2,0,1)=2 told(0,3,6,0)=700000 told(0,3,5,0)=490000 unseen(0,2,1,-1)=1000000 unseen(0,2,2,-1)!-5");
        SCRIPT.run("19, 22: TERM 1", line + "master(0,1) surest(0,2,0,-1)=1000000 surest(0,2,9999,-1)=1000000 master(1,0) surest(0,2,0,-1)=490000 "
            + "when(0,2)=0");
    }

    private static void secondsInTruth() {
        String pair = Script.seated(0, 1) + "master(2,1000) ";
        SCRIPT.run("43: he looks from 4 to 7", pair + "waits(3) send(0,1)=1 send(0,1)=0 status(6)=5 waits(2) send(0,1)=0 send(0,1)=1 status(6)=9");
        SCRIPT.run("43, 48: beyond 9999", pair + "10*waits(999) status(6)=9990 waits(9)=9999 send(0,1)=0 send(0,1)=1 send(0,1)=1 waits(1)=10003 "
            + "send(0,1)=1 send(0,1)=0 status(6)=10005 waits(999)=11004");
        SCRIPT.run("43: the SUREST then", "pupil(0,0,0) pupil(0,4,0) pupil(0,5,0) pupil(0,6,0) pupil(0,2,0) pupil(1,1,0) master(2,999) waits(1) "
            + "send(0,4) note(0)=49 seed(1) waits(7) send(0,4) note(1)=49");
    }

    private static void chancesCut() {
        String seen = SNAKE + "master(1,0) row(0,0,9) set(0,1,1) set(0,2,2) set(0,3,3) set(0,4,4) set(0,5,5) set(0,6,6) set(0,7,7) set(0,8,8) ";
        int[] eyes = {1, 67, 123, 333};
        int[][] due = {
            {999000, 998001, 997002, 996004, 995007, 994011, 993016, 992022},
            {933000, 870489, 812166, 757750, 706980, 659612, 615417, 574184},
            {877000, 769129, 674526, 591559, 518797, 454984, 399020, 349940},
            {667000, 444889, 296740, 197925, 132015, 88054, 58732, 39174}};
        for (int k = 0; k < eyes.length; k++) {
            StringBuilder calls = new StringBuilder(seen + "master(2," + eyes[k] + ") ");
            for (int hands = 1; hands <= 8; hands++) {
                calls.append("surest(0,").append(hands).append(",0,-1)=").append(due[k][hands - 1]).append(' ');
                calls.append("told(0,").append(hands + 1).append(",0,0)=").append(due[k][hands - 1]).append(' ');
            }
            SCRIPT.run("22, 39: cut at each hand", calls.toString());
        }
        SCRIPT.run("22: cut to nothing", SNAKE + "master(1,0) master(2,900) surest(0,6,0,-1)=1 surest(0,7,0,-1)=0 surest(0,8,0,-1)=0 "
            + "surest(0,8,0,8)=8 master(2,901) surest(0,5,0,-1)=9 surest(0,6,0,-1)=0");
    }

    private static void lossesCut() {
        String keeper = "pupil(0,0,0) pupil(4,1,9) pupil(0,2,0) ";
        SCRIPT.run("19, 22: 1000 at most", keeper + "master(1,0) master(2,99) loss(1,0)=999 surest(0,2,0,-1)=901 master(2,100) loss(1,0)=1000 "
            + "surest(0,2,0,-1)=0 master(2,101) loss(1,0)=1000 surest(0,2,0,-1)=0 master(2,1000) loss(1,0)=1000 surest(0,2,0,-1)=0 "
            + "surest(0,1,0,-1)=0 master(2,999) surest(0,1,0,-1)=1000");
        SCRIPT.run("22: of B 0", keeper + "surest(0,1,0,-1)=1000000 surest(0,2,0,-1)=100000 surest(0,1,4,-1)=700000 surest(2,1,0,-1)=1000000");
        SCRIPT.run("43: a LOSS of 1000 is lost by any draw", keeper + "master(1,0) master(2,1000) seed(" + seedAhead(999 << 16) + ") send(0,1)=0 seed("
            + seedAhead(65999 - 1000 << 16) + ") send(0,1)=0");
    }

    private static void bothCut() {
        // Each hand loses 1: 999000, 998001, 997002 of a million.
        String ring = "pupil(0,0,0) pupil(0,1,0) pupil(0,4,0) pupil(0,5,0) pupil(0,2,0) master(1,0) master(2,1) ";
        SCRIPT.run("26, 33, 34: cut", ring + "halves(0,3,0)=996005 halves(0,1,0)=996004 together(0,1,2,3,0)=998001 together(0,2,4,3,0)=997002 "
            + "answer(0,1,0)=998001 answer(0,3,0)=996005 answer(0,4,0)=996005 answer(2,4,0)=994012");
        SCRIPT.run("33, 34: cut to nothing", ring + "master(2,999) surest(0,1,0,-1)=1000 answer(0,1,0)=1 together(0,1,2,3,0)=1 halves(0,3,0)=0 "
            + "answer(0,3,0)=0");
    }

    private static void lettersRound() {
        SCRIPT.run("41: modulo 26", "row(0,0,5) row(1,0,2) set(0,0,25) set(0,1,25) set(0,2,1) set(0,3,0) set(0,4,13) set(1,0,25) set(1,1,1) "
            + "code(0,1,5)=5 element(0,0)=24 element(0,1)=0 element(0,2)=0 element(0,3)=1 element(0,4)=12 element(1,0)=25 element(1,1)=1");
        SCRIPT.run("41: a longer key", "row(0,2,2) row(1,2,3) set(1,0,1) set(1,1,2) set(1,2,3) code(0,1,2)=2 element(0,0)=1 element(0,1)=2");
        SCRIPT.run("41: by itself", "row(0,1,3) set(0,0,13) set(0,1,12) set(0,2,25) code(0,0,3)=3 element(0,0)=0 element(0,1)=24 element(0,2)=24");
        SCRIPT.run("41: the first of itself", "row(0,1,3) set(0,0,13) set(0,1,12) set(0,2,25) code(0,0,1)=1 element(0,0)=0 element(0,1)=12 "
            + "element(0,2)=25");
        SCRIPT.run("41: booleans", "row(0,4,3) row(1,2,1) set(0,0,1) set(1,0,25) code(0,1,3)=3 element(0,0)=0 element(0,1)=1 element(0,2)=1");
        SCRIPT.run("42: modulo 26", "row(0,0,3) row(1,0,3) set(0,0,25) set(0,1,0) set(0,2,24) set(1,0,0) set(1,1,1) set(1,2,25) keyLength(0,1,3)=1 "
            + "keyLength(1,0,3)=1 set(1,2,0) keyLength(0,1,3)=3 keyLength(0,1,2)=1 keyLength(0,0,3)=1");
        SCRIPT.run("42: the least", "row(0,0,6) row(1,0,6) set(1,0,3) set(1,1,9) set(1,2,3) set(1,3,3) set(1,4,9) set(1,5,3) keyLength(0,1,6)=3 "
            + "keyLength(0,1,5)=3 keyLength(0,1,4)=3 keyLength(0,1,3)=2 keyLength(0,1,2)=2 keyLength(0,1,1)=1 set(1,5,4) keyLength(0,1,6)=6");
    }

    private static void backWithTheTerm() {
        SCRIPT.run("13", "master(1,8) master(0,3)=8 status(4)=3 master(0,20)=3 status(4)=3 pupil(0,0,0) loss(0,2)=0 loss(0,3)=300 loss(0,19)=300 "
            + "loss(0,20)=0");
    }
}
