/** Each refusal by itself, two at once (the first of a line is answered), and that a refused call changes nothing. */
public final class RefusalsTest {
    private static final Due DUE = new Due("RefusalsTest");
    private static final Script SCRIPT = new Script(DUE);
    /**
     * A reader (0), a pupil (1), a keeper (2) at desks 0 to 2, and one apart (3); 1 and 3 are barred. A row of 0, 1, 2 in
     * shelf 0, one of another sort in 1, pupil 1 in 2, a row of no elements in 6; nothing in 3, 4, 5, 7. One note, an image
     * of other things than there are now, and half a class on the tape.
     */
    private static final String RICH = "pupil(2,0,3) pupil(0,1,0) pupil(4,2,6) image() pupil(0,11,0) bar(3,1,true) master(2,700) "
        + "send(0,2) waits(3) row(0,2,3) set(0,1,1) set(0,2,2) row(1,0,2) set(1,0,9) show(2,1) row(6,2,0) [move 0 4] ";
    private static final String ALL = Script.seated(0, 11);
    private static final String ALL_OF_FOUR_ROWS = "rows(4) " + ALL;

    public static void main(String[] args) {
        shelves();
        copies();
        shownAndSaid();
        roomAndPupils();
        masterAndTape();
        lessons();
        whatThereIs();
        ways();
        pairsOfWays();
        spots();
        toldWays();
        codes();
        keyLengths();
        truth();
        imageAndStatus();
        DUE.end();
    }

    /** Each call by itself in a scene, so that each finds what the scene alone has made. */
    private static void each(String promise, String scene, String calls) {
        for (String call : calls.trim().split("\\s+")) {
            SCRIPT.run(promise, scene + call);
        }
    }

    private static void shelves() {
        each("2", RICH, "row(-1,0,1)!-2 row(8,0,1)!-2 row(0,5,1)!-2 row(2,-1,1)!-2 row(0,0,41)!-2 row(2,0,-1)!-2 row(8,5,41)!-2 "
            + "row(0,5,41)!-2");
        each("3", RICH, "set(8,0,1)!-2 set(-1,99,1)!-2 set(2,0,1)!-3 set(2,99,1)!-3 set(2,-1,1)!-3 set(7,0,1)!-4 set(7,-1,1)!-4 "
            + "set(3,40,1)!-4 set(0,3,1)!-2 set(0,-1,1)!-2 set(1,2,1)!-2 set(6,0,1)!-2");
        each("5", RICH, "element(8,0)=0 element(2,0)=0 element(7,0)=0 element(6,0)=0 element(0,3)=0 element(0,-1)=0 element(0,2)=2");
        each("6", RICH, "holds(-1)=-1 holds(8)=-1 holds(7)=-1 holds(6)=2 holds(2)=11 holds(1)=0");
    }

    private static void copies() {
        each("4: BAD SHELVES", RICH, "copy(8,0,0,0,1)!-2 copy(0,8,0,0,1)!-2 copy(-1,-1,0,0,0)!-2 copy(8,2,0,0,1)!-2 copy(2,8,0,0,1)!-2 "
            + "copy(8,7,0,0,1)!-2 copy(7,8,0,0,1)!-2 copy(-1,0,99,99,99)!-2");
        each("4: OTHER", RICH, "copy(2,0,0,0,1)!-3 copy(0,2,0,0,1)!-3 copy(2,2,0,0,0)!-3 copy(0,1,0,0,1)!-3 copy(1,0,0,0,1)!-3 "
            + "copy(1,6,0,0,0)!-3");
        each("4: OTHER ahead of NOTHING", RICH, "copy(2,7,0,0,1)!-3 copy(7,2,0,0,1)!-3");
        each("4: OTHER ahead of BAD", RICH, "copy(2,0,99,0,1)!-3 copy(0,2,0,-1,1)!-3 copy(0,1,0,0,99)!-3 copy(1,0,-1,-1,-1)!-3 "
            + "copy(6,1,0,0,1)!-3");
        each("4: NOTHING", RICH, "copy(7,0,0,0,1)!-4 copy(0,7,0,0,1)!-4 copy(7,7,0,0,0)!-4 copy(7,3,0,0,0)!-4");
        each("4: NOTHING ahead of BAD", RICH, "copy(7,0,99,0,1)!-4 copy(0,7,0,-1,1)!-4 copy(0,7,0,0,99)!-4 copy(7,7,0,0,-1)!-4");
        each("4: BAD the others", RICH, "copy(0,0,-1,0,1)!-2 copy(0,0,0,-1,1)!-2 copy(0,0,0,0,-1)!-2 copy(0,0,3,0,1)!-2 copy(0,0,0,3,1)!-2 "
            + "copy(0,0,0,0,4)!-2 copy(0,0,2,0,2)!-2 copy(0,0,0,2,2)!-2 copy(0,6,0,0,1)!-2 copy(6,0,0,0,1)!-2 copy(0,0,4,0,0)!-2");
    }

    private static void shownAndSaid() {
        each("7", RICH, "show(8,0)!-2 show(-1,-1)!-2 show(0,4)!-2 show(2,-2)!-2 show(8,4)!-2");
        each("8: BAD", RICH, "says(8,0)!-2 says(-1,6)!-2 says(2,6)!-2 says(2,-1)!-2");
        each("8: BAD ahead of the others", RICH, "says(0,6)!-2 says(6,-1)!-2 says(7,6)!-2 says(7,-1)!-2");
        each("8: OTHER", RICH, "says(0,0)!-3 says(1,2)!-3 says(6,5)!-3 says(2,1)!-3 says(2,2)!-3 says(2,3)!-3 says(2,4)!-3 says(2,5)!-3 "
            + "says(2,0)=1");
        each("8: NOTHING", RICH, "says(7,0)!-4 says(3,5)!-4");
        each("8: OTHER", RICH + "show(3,0) show(4,2) ", "says(3,0)=0 says(3,1)!-3 says(3,2)=1 says(3,3)!-3 says(3,4)!-3 says(3,5)!-3 "
            + "says(4,0)=2 says(4,1)!-3 says(4,2)=1 says(4,3)!-3 says(4,4)=600 says(4,5)!-3");
        each("8: OTHER", "pupil(1,0,0) pupil(3,1,5) pupil(5,2,0) show(0,0) show(1,1) show(2,2) ", "says(0,0)=0 says(0,1)=500 says(0,2)!-3 "
            + "says(0,3)!-3 says(0,4)!-3 says(0,5)!-3 says(1,0)=1 says(1,1)!-3 says(1,2)=2 says(1,3)=5 says(1,4)!-3 says(1,5)!-3 "
            + "says(2,0)=2 says(2,1)!-3 says(2,2)!-3 says(2,3)!-3 says(2,4)!-3 says(2,5)=2");
    }

    private static void roomAndPupils() {
        each("9", RICH, "rows(1)!-2 rows(5)!-2 rows(2)!-5 rows(3)!-5 rows(4)!-5");
        each("10: BAD", RICH, "pupil(6,3,0)!-2 pupil(-1,3,0)!-2 pupil(0,12,0)!-2 pupil(0,-1,0)!-2 pupil(0,3,10)!-2 pupil(0,3,-1)!-2");
        each("10: BAD ahead of STUCK", RICH, "pupil(6,0,0)!-2 pupil(0,0,10)!-2 pupil(0,0,0)!-5 pupil(0,11,9)!-5");
        each("10: BAD ahead of FULL", ALL_OF_FOUR_ROWS, "pupil(6,12,0)!-2 pupil(0,16,0)!-2 pupil(0,12,10)!-2 pupil(0,12,0)!-6 "
            + "pupil(5,15,9)!-6");
        each("10: STUCK ahead of FULL", ALL_OF_FOUR_ROWS, "pupil(0,0,0)!-5 pupil(0,11,0)!-5");
        each("10: three rows all taken", ALL, "pupil(0,0,0)!-5 pupil(0,12,0)!-2");
        each("11", RICH, "bar(0,0,true)!-2 bar(3,3,false)!-2 bar(0,4,true)!-2 bar(4,0,false)!-2 bar(-1,-1,true)!-2 bar(4,4,true)!-2 "
            + "bar(1,3,true)=0 bar(3,1,false)=1 bar(0,1,false)=0");
        each("12", RICH, "move(4,5)!-2 move(-1,5)!-2 move(0,12)!-2 move(0,-1)!-2 move(4,12)!-2 move(0,1)!-5 move(0,0)!-5 move(3,2)!-5");
        each("12: BAD ahead of STUCK", RICH, "move(4,0)!-2 move(-1,11)!-2");
        each("47", RICH, "swap(4,0)!-2 swap(0,4)!-2 swap(4,4)!-2 swap(-1,-1)!-2 swap(2,2)=0");
    }

    private static void masterAndTape() {
        each("13", RICH, "master(-1,1)!-2 master(3,1)!-2 master(0,0)!-2 master(0,21)!-2 master(1,-1)!-2 master(1,9)!-2 master(2,-1)!-2 "
            + "master(2,1001)!-2 master(3,-1)!-2");
        each("14", RICH, "feed(-1)!-2 feed(256)!-2");
        String full = "[rows 4] 244*feed(32) ";
        each("14", full, "feed(32)!-6 feed(0)!-6 feed(255)!-6");
        each("14: BAD ahead of FULL", full, "feed(-1)!-2 feed(256)!-2");
    }

    /** Each class by itself: the first token that can't stand there is the fault, whatever is behind it. */
    private static void lessons() {
        String wiped = RICH + "wipe() ";
        String[] faults = {"^", "  ^", "^nobody", "^;", "^0", "^\u00e9", "^rows 9", "^rows", "pupil ^6 99 99", "pupil 0 ^0 99", "pupil 0 ^12 99",
            "pupil 0 5 ^10 x", "pupil ^x", "pupil 0 5^", "bar ^4 4", "bar 0 ^0 x", "bar 0 ^4", "bar 0 1 ^1", "move 0 ^1 x", "move ^4 1", "move 0 ^0",
            "master ^0 99 9999", "master 5 ^6 9999", "master 5 5 ^1001 x", "move 0 5;move 1 ^5", "move 0 5;bar 0 1;master 2 1 5;^rows 2",
            "pupil 0 5 5;pupil 0 ^5 5", "pupil 5 5 5;bar 0 4;bar 4 ^4", "bar 0 1;^", "bar 0 1 ^bar 0 2", "pupil 0 5 0;move 4 6;pupil 0 5 0;^x."};
        for (String fault : faults) {
            SCRIPT.run("16: " + fault, wiped + Script.fault(fault));
        }
        SCRIPT.run("16: full, and more of the word", ALL_OF_FOUR_ROWS + Script.fault("^pupil 6 99 99"));
        SCRIPT.run("16: full, and D is taken", ALL_OF_FOUR_ROWS + Script.fault("^pupil 0 0 0"));
        SCRIPT.run("16: full, and it ends too early", ALL_OF_FOUR_ROWS + Script.fault("^pupil"));
        SCRIPT.run("16: rows with pupils, and a number that may not be", RICH + "wipe() " + Script.fault("^rows 5"));
    }

    private static void whatThereIs() {
        each("17", RICH, "pupilOf(4,0)!-2 pupilOf(-1,0)!-2 pupilOf(0,5)!-2 pupilOf(0,-1)!-2 pupilOf(4,5)!-2");
        each("18", RICH, "at(12)!-2 at(-1)!-2 at(3)=-1 at(11)=3");
        each("19", RICH, "loss(4,0)!-2 loss(-1,0)!-2 loss(0,-1)!-2 loss(0,10000)!-2 loss(4,10000)!-2 loss(2,4)=1000 loss(2,3)=600");
        each("28", RICH, "crowd()=1");
        each("28", "", "crowd()!-5");
        each("29", RICH, "inRow(-1)!-2 inRow(3)!-2 inRow(1)=0 inRow(2)=8");
        each("30, 31", RICH, "edges()=2 lonely()=8");
    }

    /** To pupil 3 there is no way. */
    private static void ways() {
        String[] alone = {"20: ways", "21: fewest", "25: readers", "32: when", "35: must", "36: cut"};
        for (String name : alone) {
            String call = name.substring(4);
            each(name, RICH, call + "(0,0)!-2 " + call + "(3,3)!-2 " + call + "(0,4)!-2 " + call + "(4,0)!-2 " + call + "(-1,0)!-2 "
                + call + "(4,4)!-2 " + call + "(-1,3)!-2");
        }
        each("20, 21, 36: no way is not refused", RICH, "ways(0,3)=0 fewest(0,3)=-1 fewest(3,0)=-1 cut(0,3)=0 cut(0,1)=-1");
        each("25, 32, 35: STUCK", RICH, "readers(0,3)!-5 when(3,0)!-5 must(0,3)!-5 readers(0,2)=0 when(0,2)=0 must(0,2)=2");
        String[] placed = {"22: surest", "23: unread", "24: unseen"};
        for (String name : placed) {
            String call = name.substring(4);
            each(name, RICH, call + "(0,0,0,0)!-2 " + call + "(0,4,0,0)!-2 " + call + "(4,0,0,0)!-2 " + call + "(0,2,-1,0)!-2 " + call
                + "(0,2,10000,0)!-2 " + call + "(0,2,0,-2)!-2 " + call + "(0,0,10000,-2)!-2 " + call + "(0,2,0,2)=2");
            each(name + ": STUCK", RICH, call + "(0,3,0,-1)!-5 " + call + "(0,3,0,0)!-5 " + call + "(0,2,0,3)!-5 " + call + "(0,3,0,99)!-5");
            each(name + ": BAD ahead of STUCK", RICH, call + "(0,3,10000,-1)!-2 " + call + "(0,3,0,-2)!-2 " + call + "(0,0,0,3)!-2 " + call
                + "(0,2,-1,3)!-2");
        }
        each("23: STUCK", RICH, "unread(0,2,0,-1)=1000000 unread(2,0,0,1)=1");
        each("23: STUCK", "pupil(0,0,0) pupil(2,1,0) pupil(0,2,0) ", "unread(0,2,0,-1)!-5 unread(0,2,0,3)!-5 unread(0,2,0,-2)!-2 "
            + "surest(0,2,0,-1)=1000000");
        each("24: STUCK", RICH, "unseen(0,2,3,-1)!-5 unseen(0,2,4,0)!-5 unseen(0,2,4,3)!-5 unseen(0,2,4,-2)!-2 unseen(0,2,2,-1)=1000000");
        each("37", RICH, "reach(4)!-2 reach(-1)!-2 reach(3)=0 reach(0)=6");
    }

    private static void pairsOfWays() {
        each("26: BAD", RICH, "together(0,0,1,2,0)!-2 together(0,1,2,2,0)!-2 together(0,0,2,2,0)!-2 together(4,1,0,2,0)!-2 "
            + "together(0,4,1,2,0)!-2 together(0,1,4,2,0)!-2 together(0,1,2,4,0)!-2 together(0,1,2,3,-1)!-2 together(0,1,2,3,10000)!-2");
        each("26: STUCK", RICH, "together(0,1,2,3,0)!-5 together(0,3,1,2,0)!-5 together(0,1,1,2,0)!-5 together(0,1,0,1,0)!-5 "
            + "together(0,1,1,0,0)!-5 together(0,2,2,1,0)!-5");
        each("26: BAD ahead of STUCK", RICH, "together(0,1,1,2,10000)!-2 together(0,1,1,1,0)!-2 together(0,3,3,3,0)!-2");
        each("33", RICH, "answer(0,0,0)!-2 answer(0,4,0)!-2 answer(4,0,0)!-2 answer(0,2,-1)!-2 answer(0,2,10000)!-2 answer(0,3,0)!-5 "
            + "answer(0,3,10000)!-2 answer(0,2,0)=1000000");
        each("34", RICH, "halves(0,0,0)!-2 halves(0,4,0)!-2 halves(4,0,0)!-2 halves(0,2,-1)!-2 halves(0,2,10000)!-2 halves(0,3,0)!-5 "
            + "halves(0,2,0)!-5 halves(0,1,0)!-5 halves(0,3,10000)!-2 halves(0,2,10000)!-2");
        each("40", RICH, "change(0,0,0)!-2 change(0,4,0)!-2 change(4,0,0)!-2 change(0,2,-1)!-2 change(0,2,10000)!-2 change(4,4,10000)!-2 "
            + "change(0,3,10000)!-2 change(0,2,0)=-1 change(0,3,0)=-1");
    }

    private static void spots() {
        each("27: BAD", RICH, "spot(6,0,0,1)!-2 spot(-1,0,0,1)!-2 spot(0,10,0,1)!-2 spot(0,-1,0,1)!-2 spot(0,0,0,0)!-2 spot(0,0,0,4)!-2 "
            + "spot(0,0,4,0)!-2 spot(6,10,4,4)!-2 spot(0,0,0,3)=3");
        each("27: FULL", ALL_OF_FOUR_ROWS, "spot(0,0,0,1)!-6");
        each("27: BAD ahead of FULL", ALL_OF_FOUR_ROWS, "spot(6,0,0,1)!-2 spot(0,10,0,1)!-2 spot(0,0,0,0)!-2 spot(0,0,0,12)!-2");
        each("27: FULL ahead of STUCK", ALL, "spot(0,0,0,1)!-6 spot(0,0,0,0)!-2");
        String eight = "rows(2) " + Script.seated(0, 7);
        each("27: STUCK", eight, "spot(0,0,0,1)!-5");
        each("27: BAD ahead of STUCK", eight, "spot(6,0,0,1)!-2 spot(0,10,0,1)!-2 spot(0,0,7,7)!-2 spot(0,0,8,0)!-2");
    }

    private static void toldWays() {
        each("38: BAD", RICH, "judge(8,0)!-2 judge(-1,10)!-2 judge(0,10)!-2 judge(0,-1)!-2");
        each("38: BAD ahead of the others", RICH, "judge(2,10)!-2 judge(2,-1)!-2 judge(7,10)!-2 judge(7,-1)!-2");
        each("38: OTHER, NOTHING, BAD", RICH, "judge(2,0)!-3 judge(2,9)!-3 judge(7,0)!-4 judge(7,9)!-4 judge(0,4)!-2 judge(6,1)!-2 "
            + "judge(0,3)=-1 judge(6,0)=-1");
        each("39: BAD", RICH, "told(8,2,0,0)!-2 told(0,1,0,0)!-2 told(0,10,0,0)!-2 told(0,2,-1,0)!-2 told(0,2,10000,0)!-2 told(0,2,0,-1)!-2 "
            + "told(0,2,0,3)!-2");
        each("39: BAD ahead of the others", RICH, "told(2,1,0,0)!-2 told(2,10,0,0)!-2 told(2,2,10000,0)!-2 told(2,2,0,3)!-2 "
            + "told(7,1,0,0)!-2 told(7,2,-1,0)!-2 told(7,2,0,-1)!-2");
        each("39: OTHER, NOTHING, BAD", RICH, "told(2,2,0,0)!-3 told(2,9,0,2)!-3 told(7,2,0,0)!-4 told(7,9,0,1)!-4 told(0,4,0,0)!-2 "
            + "told(6,2,0,0)!-2 told(0,3,0,0)=1000000 told(0,3,0,1)=2 told(0,3,0,2)=0");
        each("39: STUCK", RICH + "set(0,0,3) ", "told(0,2,0,0)!-5 told(0,3,0,1)!-5 told(0,3,0,2)!-5 judge(0,3)=1");
        each("39: BAD ahead of STUCK", RICH + "set(0,0,3) ", "told(0,4,0,0)!-2 told(0,2,10000,0)!-2 told(0,2,0,3)!-2 told(0,1,0,0)!-2");
    }

    private static void codes() {
        each("41: BAD", RICH, "code(8,0,1)!-2 code(0,8,1)!-2 code(0,0,-1)!-2 code(0,0,41)!-2");
        each("41: BAD ahead of the others", RICH, "code(8,2,1)!-2 code(2,8,1)!-2 code(7,8,1)!-2 code(-1,7,1)!-2 code(2,0,41)!-2 "
            + "code(0,2,-1)!-2 code(7,0,41)!-2 code(0,7,-1)!-2 code(0,6,41)!-2");
        each("41: OTHER", RICH, "code(2,0,1)!-3 code(0,2,1)!-3 code(2,2,0)!-3");
        each("41: OTHER ahead of the others", RICH, "code(2,7,1)!-3 code(7,2,1)!-3 code(2,0,40)!-3 code(0,2,40)!-3 code(2,6,1)!-3");
        each("41: NOTHING", RICH, "code(7,0,1)!-4 code(0,7,1)!-4 code(7,7,0)!-4");
        each("41: NOTHING ahead of the others", RICH, "code(0,7,4)!-4 code(7,0,4)!-4 code(7,6,1)!-4");
        each("41: BAD", RICH, "code(0,1,4)!-2 code(6,0,1)!-2 code(0,0,3)=3");
        each("41: STUCK", RICH, "code(0,6,3)!-5 code(0,6,0)!-5 code(6,6,0)!-5");
        each("41: BAD ahead of STUCK", RICH, "code(0,6,4)!-2 code(6,6,1)!-2");
        each("41: no letters", RICH + "set(0,2,26) ", "code(0,1,3)!-2 code(1,0,1)!-2 code(0,6,3)!-2 code(0,6,2)!-5 code(0,7,3)!-4 "
            + "code(0,2,3)!-3 code(0,1,2)=2");
        each("41: no letters", RICH + "set(0,0,-1) ", "code(0,1,1)!-2 code(1,0,0)!-2 code(0,6,1)!-2 code(0,6,0)!-5 code(0,1,0)=0");
    }

    private static void keyLengths() {
        each("42: BAD", RICH, "keyLength(8,0,1)!-2 keyLength(0,8,1)!-2 keyLength(0,0,-1)!-2 keyLength(0,0,41)!-2");
        each("42: BAD ahead of the others", RICH, "keyLength(8,2,1)!-2 keyLength(2,8,1)!-2 keyLength(7,8,1)!-2 keyLength(-1,7,1)!-2 "
            + "keyLength(2,0,41)!-2 keyLength(0,2,-1)!-2 keyLength(7,0,41)!-2 keyLength(0,7,-1)!-2");
        each("42: OTHER", RICH, "keyLength(2,0,1)!-3 keyLength(0,2,0)!-3 keyLength(2,7,1)!-3 keyLength(7,2,1)!-3 keyLength(2,0,40)!-3");
        each("42: NOTHING", RICH, "keyLength(7,0,1)!-4 keyLength(0,7,0)!-4 keyLength(7,7,0)!-4 keyLength(0,7,4)!-4 keyLength(7,0,4)!-4");
        each("42: BAD", RICH, "keyLength(0,1,3)!-2 keyLength(1,0,3)!-2 keyLength(6,0,1)!-2 keyLength(0,6,1)!-2 keyLength(0,6,0)=0 "
            + "keyLength(0,1,2)=2");
        each("42: no letters", RICH + "set(0,1,26) ", "keyLength(0,1,2)!-2 keyLength(1,0,2)!-2 keyLength(0,7,2)!-4 keyLength(0,2,2)!-3 "
            + "keyLength(0,1,1)=1 keyLength(1,0,1)=1");
    }

    private static void truth() {
        each("43", RICH, "send(0,0)!-2 send(3,3)!-2 send(0,4)!-2 send(4,0)!-2 send(-1,3)!-2 send(0,3)!-5 send(3,2)!-5");
        each("44", RICH, "note(-2)!-2 note(1)!-5 note(16)!-5 note(-1)=1 note(0)=7");
        each("45", RICH, "came(-1)!-2 came(-2)!-2 came(1)!-5 came(16)!-5 came(0)=1");
        each("46", RICH, "suspect()=-1");
        each("48", RICH, "waits(0)!-2 waits(-1)!-2 waits(1000)!-2");
    }

    private static void imageAndStatus() {
        each("51", "pupil(0,0,0) show(0,0) [rows 3] ", "back()!-5");
        SCRIPT.run("51", "back()!-5 back()!-5 image()=1 back()=1 back()=1 status(15)=2");
        each("52", RICH, "status(-1)=-1 status(17)=-1 status(2)=1 status(11)=4");
        SCRIPT.run("52: each refusal is counted by itself", RICH + "set(8,0,0)!-2 set(2,0,0)!-3 set(7,0,0)!-4 rows(3)!-5 set(8,0,0)!-2 "
            + "status(12)=2 status(13)=1 status(14)=1 status(15)=1 status(16)=0 back()=1 status(12)=2 status(13)=1 status(14)=1 status(15)=1");
        SCRIPT.run("52: FULL is counted, too", ALL_OF_FOUR_ROWS + "pupil(0,12,0)!-6 pupil(0,12,0)!-6 spot(0,0,0,1)!-6 status(16)=3 "
            + "status(15)=0");
    }
}
