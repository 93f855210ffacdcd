/** Of each promise the numbers at both ends: the last that is taken and the first that is not. */
public final class BoundsTest {
    private static final Due DUE = new Due("BoundsTest");
    private static final Script SCRIPT = new Script(DUE);
    private static final String LINE = Script.seated(0, 2);
    private static final String SQUARE = "pupil(0,0,0) pupil(0,1,0) pupil(0,4,0) pupil(0,5,0) ";
    private static final String ALL = Script.seated(0, 11);
    private static final String SNAKE = "rows(4) pupil(0,0,0) pupil(0,1,0) pupil(0,2,0) pupil(0,3,0) pupil(0,7,0) pupil(0,11,0) "
        + "pupil(0,10,0) pupil(0,9,0) pupil(0,8,0) pupil(0,12,0) ";

    public static void main(String[] args) {
        rowsOnShelves();
        copies();
        shownPupils();
        whatIsSaid();
        roomAndPupils();
        bars();
        moves();
        master();
        tape();
        lessons();
        lessonsOfPupils();
        bytesOfTokens();
        whatThereIs();
        losses();
        pairs();
        seconds();
        placesOnAWay();
        eightHands();
        spots();
        whens();
        toldWays();
        codes();
        truth();
        DUE.end();
    }

    private static void rowsOnShelves() {
        SCRIPT.run("2", "row(0,0,0)=1 row(7,0,0)=1 row(-1,0,0)!-2 row(8,0,0)!-2 row(MIN,0,0)!-2 row(MAX,0,0)!-2 status(11)=2");
        SCRIPT.run("2", "row(0,0,5)=1 row(1,4,5)=1 row(2,-1,5)!-2 row(2,5,5)!-2 row(2,MIN,5)!-2 row(2,MAX,5)!-2 "
            + "holds(0)=0 holds(1)=4 holds(2)=-1");
        SCRIPT.run("2", "row(0,3,0)=1 row(1,3,40)=1 row(2,3,-1)!-2 row(2,3,41)!-2 row(2,3,MIN)!-2 row(2,3,MAX)!-2 "
            + "set(1,39,7)=1 row(1,3,41)!-2 element(1,39)=7 holds(2)=-1");
        SCRIPT.run("3", "row(0,2,3) row(7,2,40) set(0,0,1)=1 set(0,2,2)=1 set(0,-1,3)!-2 set(0,3,3)!-2 set(0,MIN,3)!-2 "
            + "set(0,MAX,3)!-2 element(0,0)=1 element(0,2)=2 set(7,39,5)=1 set(7,40,6)!-2 element(7,39)=5 "
            + "set(-1,0,1)!-2 set(8,0,1)!-2 set(MIN,0,1)!-2 set(MAX,0,1)!-2");
        SCRIPT.run("5", "row(0,1,2) row(7,1,40) set(0,0,3) set(0,1,4) set(7,39,9) element(0,0)=3 element(0,1)=4 element(0,2)=0 "
            + "element(0,-1)=0 element(7,39)=9 element(7,40)=0 element(0,MIN)=0 element(0,MAX)=0 element(-1,0)=0 element(8,0)=0 "
            + "element(MIN,0)=0 element(MAX,0)=0");
        SCRIPT.run("6", "row(0,0,1) row(7,4,1) holds(0)=0 holds(7)=4 holds(-1)=-1 holds(8)=-1 holds(MIN)=-1 holds(MAX)=-1");
    }

    private static void copies() {
        String forty = "row(0,0,40) row(7,0,40) set(0,0,5) set(0,39,9) ";
        SCRIPT.run("4", forty + "copy(0,7,0,0,40)=40 element(7,0)=5 element(7,39)=9 copy(0,7,0,0,41)!-2 copy(0,7,0,0,-1)!-2 "
            + "copy(0,7,0,0,MIN)!-2 copy(0,7,0,0,MAX)!-2 copy(0,7,1,1,MAX)!-2 copy(0,7,0,0,0)=0");
        SCRIPT.run("4", forty + "copy(0,7,39,0,1)=1 element(7,0)=9 copy(0,7,40,0,1)!-2 copy(0,7,39,0,2)!-2 copy(0,7,-1,0,1)!-2 "
            + "copy(0,7,1,0,39)=39 element(7,38)=9 element(7,39)=0 copy(0,7,1,0,40)!-2 copy(0,7,MAX,0,1)!-2 copy(0,7,MIN,0,1)!-2");
        SCRIPT.run("4", forty + "copy(0,7,0,39,1)=1 element(7,39)=5 copy(0,7,0,40,1)!-2 copy(0,7,0,39,2)!-2 copy(0,7,0,-1,1)!-2 "
            + "copy(0,7,0,1,39)=39 element(7,1)=5 element(7,0)=0 copy(0,7,0,1,40)!-2 copy(0,7,0,MAX,1)!-2 copy(0,7,0,MIN,1)!-2");
        SCRIPT.run("4", "row(0,0,5) row(1,0,2) copy(0,1,3,0,2)=2 copy(0,1,4,0,2)!-2 copy(0,1,0,0,3)!-2 copy(0,1,0,1,2)!-2 "
            + "copy(1,0,0,3,2)=2 copy(1,0,0,4,2)!-2 copy(1,0,0,0,3)!-2 copy(1,0,1,0,2)!-2");
        SCRIPT.run("4", forty + "copy(-1,0,0,0,1)!-2 copy(8,0,0,0,1)!-2 copy(0,-1,0,0,1)!-2 copy(0,8,0,0,1)!-2 "
            + "copy(MIN,0,0,0,1)!-2 copy(MAX,0,0,0,1)!-2 copy(0,MIN,0,0,1)!-2 copy(0,MAX,0,0,1)!-2");
    }

    private static void shownPupils() {
        SCRIPT.run("7", ALL + "show(0,0)=1 holds(0)=10 show(7,11)=1 holds(7)=21 show(1,12)!-2 show(1,-1)=1 show(1,-2)!-2 "
            + "show(1,MIN)!-2 show(1,MAX)!-2 show(-1,0)!-2 show(8,0)!-2 show(MIN,0)!-2 show(MAX,0)!-2 status(11)=2");
        SCRIPT.run("7", LINE + "show(0,2)=1 holds(0)=12 show(0,3)!-2 holds(0)=12");
    }

    private static void whatIsSaid() {
        // A reader amid four others, and marks 0 and 9 of each kind; the master always looks.
        String class9 = "rows(4) pupil(2,5,0) pupil(4,1,0) pupil(4,4,9) pupil(1,6,0) pupil(1,9,9) pupil(3,15,0) pupil(3,0,9) "
            + "pupil(5,14,9) pupil(2,3,9) master(1,0) master(2,1000) ";
        SCRIPT.run("8", class9 + "show(0,0) says(0,0)=5 says(0,2)=4 show(0,8) says(0,0)=3 says(0,2)=0 show(7,7) says(7,0)=14 "
            + "says(7,5)=2 says(7,-1)!-2 says(7,6)!-2 says(7,MIN)!-2 says(7,MAX)!-2 says(-1,0)!-2 says(8,0)!-2 says(MIN,0)!-2 "
            + "says(MAX,0)!-2");
        SCRIPT.run("8", class9 + "show(0,1) says(0,4)=0 says(0,2)=2 show(0,2) says(0,4)=900 show(0,3) says(0,1)=500 show(0,4) "
            + "says(0,1)=590 show(0,5) says(0,3)=0 says(0,0)=15 says(0,2)=1 show(0,6) says(0,3)=9 says(0,0)=0");
    }

    private static void roomAndPupils() {
        SCRIPT.run("9", "rows(2)=3 rows(4)=2 rows(1)!-2 rows(5)!-2 rows(MIN)!-2 rows(MAX)!-2 rows(3)=4 status(0)=3");
        SCRIPT.run("10", "pupil(0,0,0)=0 pupil(5,11,9)=1 pupil(-1,1,0)!-2 pupil(6,1,0)!-2 pupil(0,-1,0)!-2 pupil(0,12,0)!-2 "
            + "pupil(0,1,-1)!-2 pupil(0,1,10)!-2 pupilOf(0,0)=0 pupilOf(0,1)=0 pupilOf(0,2)=0 pupilOf(1,0)=5 pupilOf(1,1)=11 "
            + "pupilOf(1,2)=9 status(1)=2");
        SCRIPT.run("10", "pupil(MIN,1,0)!-2 pupil(MAX,1,0)!-2 pupil(0,MIN,0)!-2 pupil(0,MAX,0)!-2 pupil(0,1,MIN)!-2 "
            + "pupil(0,1,MAX)!-2 status(1)=0");
        SCRIPT.run("10", "rows(2) pupil(0,8,0)!-2 pupil(0,7,0)=0");
        SCRIPT.run("10", "rows(4) pupil(0,16,0)!-2 pupil(0,15,0)=0");
        SCRIPT.run("10", "rows(4) " + Script.seated(0, 10) + "pupil(0,15,0)=11 pupil(0,14,0)!-6 status(1)=12");
    }

    private static void bars() {
        SCRIPT.run("11", LINE + "bar(0,2,true)=1 bar(2,1,true)=1 bar(0,3,true)!-2 bar(3,0,true)!-2 bar(-1,0,true)!-2 "
            + "bar(0,-1,true)!-2 bar(1,1,true)!-2 bar(1,1,false)!-2 bar(MIN,0,true)!-2 bar(0,MAX,true)!-2 status(2)=2");
        SCRIPT.run("11", ALL + "bar(11,0,true)=1 bar(0,12,true)!-2 bar(12,0,false)!-2 bar(0,11,true)=0 bar(0,11,false)=1 "
            + "bar(11,0,false)=0 status(2)=0");
    }

    private static void moves() {
        SCRIPT.run("12", LINE + "move(0,11)=0 move(2,0)=2 move(3,5)!-2 move(-1,5)!-2 move(0,12)!-2 move(0,-1)!-2 move(MIN,5)!-2 "
            + "move(MAX,5)!-2 move(0,MIN)!-2 move(0,MAX)!-2 at(11)=0 at(0)=2");
        SCRIPT.run("12", "rows(2) " + LINE + "move(0,8)!-2 move(0,7)=0 move(0,3)=7");
        SCRIPT.run("12", "rows(4) " + LINE + "move(0,16)!-2 move(0,15)=0 move(0,0)=15");
        SCRIPT.run("47", LINE + "swap(0,2)=1 swap(2,0)=1 swap(0,3)!-2 swap(3,0)!-2 swap(-1,0)!-2 swap(0,-1)!-2 swap(MIN,0)!-2 "
            + "swap(0,MAX)!-2 swap(2,2)=0 swap(3,3)!-2 swap(-1,-1)!-2");
        SCRIPT.run("47", ALL + "swap(11,0)=1 at(0)=11 at(11)=0 swap(12,0)!-2 swap(0,12)!-2");
    }

    private static void master() {
        SCRIPT.run("13", "master(0,1)=8 status(4)=1 master(0,20)=1 status(4)=1 master(0,0)!-2 master(0,21)!-2 master(0,-1)!-2 "
            + "master(0,MIN)!-2 master(0,MAX)!-2 status(3)=20");
        SCRIPT.run("13", "master(1,0)=4 master(1,8)=0 master(1,9)!-2 master(1,-1)!-2 master(1,MIN)!-2 master(1,MAX)!-2 status(4)=8 "
            + "master(0,20)=8 master(1,20)=8 master(1,21)!-2 master(0,1)=20 status(4)=1 master(1,2)!-2 master(1,1)=1 master(1,0)=1");
        SCRIPT.run("13", "master(2,0)=300 master(2,1000)=0 master(2,-1)!-2 master(2,1001)!-2 master(2,MIN)!-2 master(2,MAX)!-2 "
            + "status(5)=1000 master(-1,1)!-2 master(3,1)!-2 master(MIN,1)!-2 master(MAX,1)!-2");
        SCRIPT.run("13: BACK is TERM at most then", "master(0,5)=8 status(4)=4 master(0,4)=5 status(4)=4 master(0,3)=4 status(4)=3 "
            + "master(0,8)=3 status(4)=3");
    }

    private static void tape() {
        SCRIPT.run("14", "feed(0)=1 feed(255)=2 feed(-1)!-2 feed(256)!-2 feed(MIN)!-2 feed(MAX)!-2 status(9)=2");
        SCRIPT.run("14", "248*feed(32) feed(32)=249 feed(32)=250 feed(32)!-6 status(9)=250 wipe()=250 feed(32)=1");
        SCRIPT.run("16: 250 bytes", "[rows 2] 244*feed(32) feed(32)!-6 school()=1 status(0)=2 status(9)=0");
        SCRIPT.run("16: the last byte is a fault", "[rows 2] 243*feed(32) [z] school()!-269 status(0)=3");
        SCRIPT.run("16: the last byte isn't the end", "[rows 2] 243*feed(32) [;] school()!-270 status(0)=3");
        SCRIPT.run("16: the last byte ends it", "[rows] 245*feed(32) [4] school()=1 status(0)=4");
        SCRIPT.run("16: a full tape that ends too early", "[" + "rows2;".repeat(41) + "rows] status(9)=250 school()!-270");
        SCRIPT.run("16: the most statements", "[" + "rows2;".repeat(40) + "rows 4] school()=41 status(0)=4");
    }

    private static void lessons() {
        SCRIPT.run("16", "[rows 2] school()=1 status(0)=2 [rows 4] school()=1 status(0)=4 " + Script.fault("rows ^1")
            + Script.fault("rows ^5") + Script.fault("rows ^0") + Script.fault("rows ^9999") + "status(0)=4");
        SCRIPT.run("16: four digits", "[rows 0002] school()=1 status(0)=2 " + Script.fault("rows ^00002")
            + Script.fault("rows ^00000000000000000000002") + "[rows 3;pupil 0000 0011 0009] school()=2 pupilOf(0,1)=11 "
            + Script.fault("pupil ^00000 10 9") + Script.fault("pupil 0 ^00010 9") + Script.fault("pupil 0 10 ^00009"));
        SCRIPT.run("16: four digits", LINE + "[bar 0000 0001;move 0002 0011;master 0020 0020 1000] school()=3 "
            + Script.fault("bar ^00000 1") + Script.fault("bar 0 ^00001") + Script.fault("move ^00002 5")
            + Script.fault("move 2 ^00005") + Script.fault("master ^00020 20 1000") + Script.fault("master 20 ^00020 1000")
            + Script.fault("master 20 20 ^01000") + Script.fault("master 20 20 ^4294967296"));
        SCRIPT.run("16: master", "[master 1 0 0] school()=1 status(3)=1 status(4)=0 status(5)=0 [master 20 20 1000] school()=1 "
            + "status(3)=20 status(4)=20 status(5)=1000 " + Script.fault("master ^0 0 0") + Script.fault("master ^21 0 0")
            + Script.fault("master 1 ^2 0") + Script.fault("master 20 ^21 0") + Script.fault("master 20 20 ^1001")
            + "[master 7 7 7] school()=1 " + Script.fault("master 7 ^8 7") + "status(3)=7 status(4)=7 status(5)=7");
    }

    private static void lessonsOfPupils() {
        SCRIPT.run("16: pupil", "[pupil 0 0 0] school()=1 [pupil 5 11 9] school()=1 status(1)=2 " + Script.fault("pupil ^6 1 0")
            + Script.fault("pupil 0 ^12 0") + Script.fault("pupil 0 1 ^10") + Script.fault("pupil 0 ^0 0")
            + Script.fault("pupil 0 ^11 0") + "status(1)=2");
        SCRIPT.run("16: desks of two rows", Script.fault("rows 2;pupil 0 ^8 0") + "[rows 2;pupil 0 7 0] school()=2 "
            + Script.fault("move 0 ^8") + "[move 0 0] school()=1");
        SCRIPT.run("16: desks of four rows", Script.fault("rows 4;pupil 0 ^16 0") + "[rows 4;pupil 0 15 0] school()=2 "
            + Script.fault("move 0 ^16") + Script.fault("move 0 ^15") + "[move 0 14;move 0 15] school()=2");
        SCRIPT.run("16: bar", LINE + "[bar 0 2;bar 2 1] school()=2 status(2)=2 " + Script.fault("bar ^3 0") + Script.fault("bar 0 ^3")
            + Script.fault("bar 0 ^0") + Script.fault("bar 2 ^2") + Script.fault("bar ^9999 0") + "status(2)=2");
        SCRIPT.run("16: move", LINE + "[move 0 11;move 2 0] school()=2 at(11)=0 at(0)=2 " + Script.fault("move ^3 5")
            + Script.fault("move 0 ^12") + Script.fault("move 0 ^1") + Script.fault("move 0 ^11"));
        SCRIPT.run("16: pupils told before", Script.fault("pupil 0 0 0;bar 0 ^1") + "[pupil 0 0 0;pupil 0 1 0;bar 0 1] school()=3 "
            + Script.fault("bar 0 ^2;pupil 0 2 0"));
        SCRIPT.run("16: the twelfth", "rows(4) " + Script.seated(0, 9) + Script.fault("pupil 0 10 0;pupil 0 11 0;^pupil 0 12 0")
            + "status(1)=10 [pupil 0 10 0;pupil 0 11 0] school()=2 status(1)=12 " + Script.fault("^pupil 0 12 0")
            + Script.fault("^pupil 0 0 0") + Script.fault("^pupil") + Script.fault("^pupil 6"));
        SCRIPT.run("16: rows", Script.fault("pupil 0 0 0;^rows 3") + "[rows 2;rows 4;pupil 0 15 0] school()=3 "
            + Script.fault("^rows 4") + Script.fault("^rows") + Script.fault("move 0 1;^rows 4"));
    }

    private static void bytesOfTokens() {
        SCRIPT.run("16: a to z", Script.fault("^rowsa 3") + Script.fault("^rowsz 3") + Script.fault("rows^` 3")
            + Script.fault("rows^{ 3") + Script.fault("rows^A 3") + Script.fault("rows^Z 3") + Script.fault("rows^@ 3"));
        SCRIPT.run("16: digits", Script.fault("rows ^30") + Script.fault("rows ^39") + Script.fault("rows 3^/")
            + Script.fault("rows 3^:") + Script.fault("rows 3^a") + Script.fault("rows 3^z"));
        SCRIPT.run("16: the sign", Script.fault("rows 3;^") + Script.fault("rows 3^<") + Script.fault("rows 3;^;")
            + Script.fault("^;rows 3") + Script.fault("rows^;3"));
        SCRIPT.run("16: blanks", "[ rows 3 ] school()=1 [  rows   2  ;  rows   3   ] school()=2 " + Script.fault("rows^!3")
            + Script.fault("rows^\u001f3") + Script.fault("rows^\t3") + Script.fault("rows 3^\n") + Script.fault("rows 3^\u00a0")
            + Script.fault("^r ows 3") + Script.fault("master 2  ^"));
        SCRIPT.run("16: the ends of a byte", "[rows] feed(0) [3] school()!-24 [rows 3] feed(255) school()!-26 feed(0) school()!-20 "
            + "feed(255) school()!-20");
        SCRIPT.run("16: words", Script.fault("^row 3") + Script.fault("^rowss 3") + Script.fault("^pupi 0 0 0")
            + Script.fault("^pupils 0 0 0") + Script.fault("^ba") + Script.fault("^bars") + Script.fault("^mov 0 0")
            + Script.fault("^moves 0 0") + Script.fault("^maste 1 1 1") + Script.fault("^masters 1 1 1"));
    }

    private static void whatThereIs() {
        SCRIPT.run("17", ALL + "bar(0,11,true) pupilOf(0,0)=0 pupilOf(0,4)=2048 pupilOf(11,4)=1 pupilOf(11,3)=1152 pupilOf(11,1)=11 "
            + "pupilOf(12,0)!-2 pupilOf(-1,0)!-2 pupilOf(0,-1)!-2 pupilOf(0,5)!-2 pupilOf(MIN,0)!-2 pupilOf(MAX,0)!-2 "
            + "pupilOf(0,MIN)!-2 pupilOf(0,MAX)!-2");
        SCRIPT.run("17", LINE + "pupilOf(2,0)=0 pupilOf(3,0)!-2");
        SCRIPT.run("18, 29", "at(0)=-1 at(11)=-1 at(12)!-2 at(-1)!-2 at(MIN)!-2 at(MAX)!-2 inRow(0)=0 inRow(2)=0 inRow(3)!-2 "
            + "inRow(-1)!-2 inRow(MIN)!-2 inRow(MAX)!-2");
        SCRIPT.run("18, 29", "rows(2) pupil(0,7,0) at(7)=0 at(8)!-2 inRow(1)=1 inRow(2)!-2");
        SCRIPT.run("18, 29", "rows(4) pupil(0,15,0) at(15)=0 at(16)!-2 inRow(3)=1 inRow(4)!-2");
        SCRIPT.run("29", ALL + "inRow(0)=15 inRow(1)=240 inRow(2)=3840");
    }

    private static void losses() {
        String kinds = "pupil(0,0,0) pupil(0,1,9) pupil(1,2,0) pupil(1,3,9) pupil(4,4,0) pupil(4,5,9) ";
        SCRIPT.run("19", kinds + "loss(0,0)=0 loss(1,0)=90 loss(2,0)=500 loss(3,0)=590 loss(4,0)=0 loss(5,0)=900 loss(0,9999)=300 "
            + "loss(5,9999)=1000 loss(0,-1)!-2 loss(0,10000)!-2 loss(0,MIN)!-2 loss(0,MAX)!-2 loss(-1,0)!-2 loss(6,0)!-2 "
            + "loss(MIN,0)!-2 loss(MAX,0)!-2");
        SCRIPT.run("19: 1000 at most", kinds + "master(1,0) master(2,409) loss(3,0)=999 master(2,410) loss(3,0)=1000 master(2,411) "
            + "loss(3,0)=1000 master(2,99) loss(5,0)=999 master(2,100) loss(5,0)=1000 master(2,101) loss(5,0)=1000 master(2,1000) "
            + "loss(0,0)=1000 loss(5,0)=1000 master(2,0) loss(0,0)=0 loss(5,0)=900");
        SCRIPT.run("19: TERM and BACK", kinds + "loss(0,3)=0 loss(0,4)=300 loss(0,7)=300 loss(0,8)=0 loss(0,11)=0 loss(0,12)=300 "
            + "master(1,1) loss(0,0)=0 loss(0,1)=300 loss(0,8)=0 master(1,7) loss(0,6)=0 loss(0,7)=300 master(1,0) loss(0,0)=300 "
            + "loss(0,8)=300 master(1,8) loss(0,7)=0 loss(0,8)=0");
        SCRIPT.run("19: the least TERM", kinds + "master(0,1) loss(0,0)=0 loss(0,9999)=0 master(1,0) loss(0,0)=300 loss(0,9999)=300");
        SCRIPT.run("19: the greatest TERM", kinds + "master(0,20) master(1,19) loss(0,18)=0 loss(0,19)=300 loss(0,20)=0 "
            + "loss(0,9999)=300 loss(0,9998)=0");
    }

    /** A and B stand for the two pupils of a pair; there are so many in the scene. */
    private static void pairsOf(String promise, String scene, int pupils, String pattern, String first, String second) {
        String[] one = first.split("=");
        String[] other = second.split("=");
        StringBuilder calls = new StringBuilder(scene);
        calls.append(pair(pattern, one[0])).append('=').append(one[1]).append(' ');
        calls.append(pair(pattern, other[0])).append('=').append(other[1]).append(' ');
        String[] wrong = {"-1,1", "1,-1", pupils + ",1", "1," + pupils, "0,0", "1,1", pupils - 1 + "," + (pupils - 1), "-1,-1",
            pupils + "," + pupils, "MIN,1", "1,MIN", "MAX,1", "1,MAX", "12,0", "0,12"};
        for (String pair : wrong) {
            calls.append(pair(pattern, pair)).append("!-2 ");
        }
        SCRIPT.run(promise, calls.toString());
    }

    private static String pair(String pattern, String pupils) {
        String[] each = pupils.split(",");
        return pattern.replace("A", each[0].replace("MAX", "M#X")).replace("B", each[1]).replace("M#X", "MAX");
    }

    private static void pairs() {
        pairsOf("20", LINE, 3, "ways(A,B)", "0,2=1", "2,0=1");
        pairsOf("21", LINE, 3, "fewest(A,B)", "0,2=2", "2,1=1");
        pairsOf("22", LINE, 3, "surest(A,B,0,-1)", "0,2=1000000", "2,0=1000000");
        pairsOf("23", LINE, 3, "unread(A,B,0,0)", "0,2=0", "2,0=2");
        pairsOf("24", LINE, 3, "unseen(A,B,0,1)", "0,2=1", "2,1=1");
        pairsOf("25", LINE, 3, "readers(A,B)", "0,2=0", "2,0=0");
        pairsOf("26", SQUARE, 4, "together(A,B,2,3,0)", "0,1=1000000", "1,0=1000000");
        pairsOf("26", SQUARE, 4, "together(2,3,A,B,0)", "0,1=1000000", "1,0=1000000");
        pairsOf("26", SQUARE, 4, "together(0,1,A,B,0)", "2,3=1000000", "3,2=1000000");
        pairsOf("27", LINE, 3, "spot(0,0,A,B)", "0,2=3", "2,0=3");
        pairsOf("32", LINE, 3, "when(A,B)", "0,2=0", "2,0=0");
        pairsOf("33", LINE, 3, "answer(A,B,0)", "0,2=1000000", "2,0=1000000");
        pairsOf("34", SQUARE, 4, "halves(A,B,0)", "0,3=1000000", "3,0=1000000");
        pairsOf("35", LINE, 3, "must(A,B)", "0,2=2", "2,0=2");
        pairsOf("36", LINE, 3, "cut(A,B)", "0,2=1", "2,0=1");
        pairsOf("40", SQUARE, 4, "change(A,B,0)", "0,3=-1", "3,0=-1");
        pairsOf("43", LINE, 3, "send(A,B)", "0,2=1", "2,0=1");
        SCRIPT.run("20 to 43: the last number", ALL + "fewest(0,11)=5 fewest(11,0)=5 ways(11,10)=9 surest(11,10,0,0)=11 readers(11,0)=0 "
            + "must(11,0)=0 cut(11,0)=2 cut(11,10)=-1 send(11,10)=1 fewest(12,0)!-2 fewest(0,12)!-2");
        SCRIPT.run("37", LINE + "reach(0)=6 reach(2)=3 reach(3)!-2 reach(-1)!-2 reach(MIN)!-2 reach(MAX)!-2");
        SCRIPT.run("37", ALL + "reach(11)=2047 reach(0)=4094 reach(12)!-2");
    }

    /** S stands for the second. */
    private static void secondsOf(String promise, String scene, String pattern, int atFirst, int atLast) {
        StringBuilder calls = new StringBuilder(scene);
        calls.append(pattern.replace("S", "0")).append('=').append(atFirst).append(' ');
        calls.append(pattern.replace("S", "9999")).append('=').append(atLast).append(' ');
        for (String wrong : new String[] {"-1", "10000", "MIN", "MAX"}) {
            calls.append(pattern.replace("S", wrong)).append("!-2 ");
        }
        SCRIPT.run(promise, calls.toString());
    }

    private static void seconds() {
        // At 9999 (7 of 8) the master looks, at 10000 he has turned again.
        secondsOf("22", LINE, "surest(0,2,S,-1)", 1000000, 700000);
        secondsOf("23", LINE, "unread(0,2,S,-1)", 1000000, 700000);
        secondsOf("24", LINE + "master(1,8) ", "unseen(0,2,S,-1)", 1000000, 1000000);
        secondsOf("26", SQUARE, "together(0,1,2,3,S)", 1000000, 490000);
        secondsOf("33", LINE, "answer(0,2,S)", 1000000, 700000);
        secondsOf("34", SQUARE, "halves(0,3,S)", 1000000, 490000);
        secondsOf("39", LINE + "row(0,0,3) set(0,1,1) set(0,2,2) ", "told(0,3,S,0)", 1000000, 700000);
        secondsOf("40", SQUARE, "change(0,3,S)", -1, -1);
    }

    private static void placesOnAWay() {
        for (String name : new String[] {"22: surest", "23: unread", "24: unseen"}) {
            String call = name.substring(4);
            SCRIPT.run(name, LINE + call + "(0,2,0,-1)=1000000 " + call + "(0,2,0,0)=0 " + call + "(0,2,0,2)=2 " + call
                + "(0,2,0,3)!-5 " + call + "(0,2,0,9)!-5 " + call + "(0,2,0,MAX)!-5 " + call + "(0,2,0,-2)!-2 " + call
                + "(0,2,0,MIN)!-2 " + call + "(0,1,0,1)=1 " + call + "(0,1,0,2)!-5");
        }
    }

    private static void eightHands() {
        // From second 4 on he looks: four of eight hands lose 300.
        SCRIPT.run("20 to 36", SNAKE + "ways(0,8)=1 fewest(0,8)=8 surest(0,8,0,-1)=240100 surest(0,8,0,8)=8 surest(0,8,0,9)!-5 "
            + "unread(0,8,0,8)=8 readers(0,8)=0 when(0,8)=0 must(0,8)=254 answer(0,8,0)=57648 ways(9,1)=1 fewest(9,1)=8");
        SCRIPT.run("20 to 36", SNAKE + "ways(0,9)=0 fewest(0,9)=-1 surest(0,9,0,-1)!-5 unread(0,9,0,-1)!-5 readers(0,9)!-5 "
            + "when(0,9)!-5 must(0,9)!-5 answer(0,9,0)!-5 send(0,9)!-5 cut(0,9)=1 reach(0)=1022 halves(0,9,0)!-5");
        SCRIPT.run("24", SNAKE + "master(1,7) unseen(0,8,0,-1)!-5 unseen(0,7,0,-1)=1000000 unseen(0,7,1,-1)!-5 master(1,8) "
            + "unseen(0,8,0,-1)=1000000 unseen(0,8,0,8)=8");
        SCRIPT.run("35, 36: of nine and of ten", "rows(4) pupil(0,4,0) pupil(0,8,0) pupil(0,12,0) pupil(0,13,0) pupil(0,14,0) "
            + "pupil(0,15,0) pupil(0,11,0) pupil(0,7,0) pupil(0,3,0) pupil(0,2,0) pupil(0,1,0) pupil(0,0,0) "
            + "ways(0,6)=2 must(0,6)=0 halves(0,6,0)=240100 ways(0,8)=2 fewest(0,8)=4 ways(0,9)=1 must(0,9)=3072 cut(0,9)=2 "
            + "halves(0,9,0)!-5");
    }

    private static void spots() {
        SCRIPT.run("27", LINE + "spot(0,0,0,2)=3 spot(5,9,0,2)=3 spot(-1,0,0,2)!-2 spot(6,0,0,2)!-2 spot(0,-1,0,2)!-2 "
            + "spot(0,10,0,2)!-2 spot(MIN,0,0,2)!-2 spot(MAX,0,0,2)!-2 spot(0,MIN,0,2)!-2 spot(0,MAX,0,2)!-2");
        SCRIPT.run("27: the last desk", Script.seated(0, 10) + "spot(0,0,0,1)=11 pupil(0,11,0)=11 spot(0,0,0,1)!-6");
        SCRIPT.run("27: the last of two rows", "rows(2) " + Script.seated(0, 6) + "spot(0,0,0,1)=7 pupil(0,7,0)=7 spot(0,0,0,1)!-5");
        SCRIPT.run("27: the last of four rows", "rows(4) pupil(0,14,0) pupil(0,11,0) pupil(1,10,9) master(1,8) spot(4,0,0,1)=15 "
            + "spot(4,5,0,1)=15 spot(4,6,0,1)=0");
    }

    private static void whens() {
        // The keeper's hand, the second of three, is the one to be unseen.
        String keeper = "pupil(0,0,0) pupil(0,1,0) pupil(4,2,4) pupil(0,3,0) ";
        SCRIPT.run("32: the last second", keeper + "master(0,20) master(1,1) master(2,500) surest(0,3,18,-1)=50000 "
            + "surest(0,3,19,-1)=150000 when(0,3)=19 master(0,2) when(0,3)=1 master(0,1) when(0,3)=0 master(1,0) when(0,3)=0");
        SCRIPT.run("32: he never looks", keeper + "master(1,8) when(0,3)=0 master(1,0) when(0,3)=0");
    }

    private static void toldWays() {
        String nine = SNAKE + "row(0,0,10) set(0,1,1) set(0,2,2) set(0,3,3) set(0,4,4) set(0,5,5) set(0,6,6) set(0,7,7) set(0,8,8) "
            + "set(0,9,9) ";
        SCRIPT.run("38", nine + "judge(0,0)=-1 judge(0,1)=-1 judge(0,9)=-1 judge(0,-1)!-2 judge(0,10)!-2 judge(0,MIN)!-2 judge(0,MAX)!-2 "
            + "judge(-1,0)!-2 judge(8,0)!-2 judge(MIN,0)!-2 judge(MAX,0)!-2 row(7,0,9) judge(7,9)=1 row(7,0,8) judge(7,8)=1 "
            + "judge(7,9)!-2");
        SCRIPT.run("39", nine + "told(0,9,0,0)=240100 told(0,9,0,1)=8 told(0,9,0,2)=0 told(0,2,0,0)=1000000 told(0,1,0,0)!-2 "
            + "told(0,0,0,0)!-2 told(0,10,0,0)!-2 told(0,MIN,0,0)!-2 told(0,MAX,0,0)!-2 told(0,2,0,-1)!-2 told(0,2,0,3)!-2 "
            + "told(0,2,0,MIN)!-2 told(0,2,0,MAX)!-2 told(-1,2,0,0)!-2 told(8,2,0,0)!-2 told(MIN,2,0,0)!-2 told(MAX,2,0,0)!-2");
        SCRIPT.run("39", nine + "row(7,0,9) copy(0,7,0,0,9) told(7,9,0,1)=8 row(7,0,8) copy(0,7,0,0,8) told(7,8,0,1)=7 told(7,9,0,1)!-2");
        SCRIPT.run("38: numbers of pupils", nine + "set(0,0,9) judge(0,1)=-1 set(0,0,10) judge(0,1)=0 set(0,0,-1) judge(0,1)=0 "
            + "set(0,0,127) judge(0,1)=0 row(1,3,2) set(1,0,MAX) judge(1,2)=0 set(1,0,MIN) judge(1,2)=0 set(1,0,4294967296) "
            + "judge(1,2)=0 set(1,0,1) judge(1,2)=-1 set(1,1,4294967296) judge(1,2)=1 told(1,2,0,0)!-5");
    }

    private static void codes() {
        String forty = "row(0,0,40) row(1,0,40) set(0,39,25) set(1,39,25) ";
        SCRIPT.run("41", forty + "code(0,1,40)=40 element(0,39)=24 code(0,1,41)!-2 code(0,1,-1)!-2 code(0,1,MIN)!-2 code(0,1,MAX)!-2 "
            + "code(0,1,0)=0 code(0,1,1)=1 element(0,0)=0 element(0,39)=24 code(-1,1,1)!-2 code(8,1,1)!-2 code(0,-1,1)!-2 "
            + "code(0,8,1)!-2 code(MIN,1,1)!-2 code(0,MAX,1)!-2 row(7,0,39) code(7,1,39)=39 code(7,1,40)!-2");
        SCRIPT.run("41: letters", "row(0,3,2) row(1,3,1) set(0,0,25) set(0,1,26) code(0,1,1)=1 code(0,1,2)!-2 set(0,1,-1) code(0,1,2)!-2 "
            + "set(0,1,4294967296) code(0,1,2)!-2 set(0,1,MIN) code(0,1,2)!-2 set(0,1,0) code(0,1,2)=2 element(0,0)=25 element(0,1)=0");
        SCRIPT.run("41: the key", "row(0,3,1) row(1,3,2) set(1,1,25) code(0,1,1)=1 set(1,1,26) code(0,1,1)!-2 set(1,1,-1) code(0,1,1)!-2 "
            + "set(1,1,0) set(1,0,26) code(0,1,1)!-2 set(1,0,MIN) code(0,1,0)!-2 set(1,0,25) code(0,1,1)=1 element(0,0)=25");
        SCRIPT.run("42", forty + "keyLength(0,1,40)=1 set(1,39,24) keyLength(0,1,40)=40 keyLength(0,1,39)=1 keyLength(0,1,1)=1 "
            + "keyLength(0,1,0)=0 keyLength(0,1,41)!-2 keyLength(0,1,-1)!-2 keyLength(0,1,MIN)!-2 keyLength(0,1,MAX)!-2 "
            + "keyLength(-1,1,1)!-2 keyLength(8,1,1)!-2 keyLength(0,-1,1)!-2 keyLength(0,8,1)!-2 row(7,0,39) keyLength(7,1,39)=1 "
            + "keyLength(7,1,40)!-2 keyLength(1,7,39)=1 keyLength(1,7,40)!-2");
        SCRIPT.run("42: letters", "row(0,3,2) row(1,3,2) set(0,1,25) set(1,1,25) keyLength(0,1,2)=1 set(0,1,26) keyLength(0,1,2)!-2 "
            + "keyLength(0,1,1)=1 set(0,1,-1) keyLength(0,1,2)!-2 set(0,1,0) set(1,1,26) keyLength(0,1,2)!-2 keyLength(0,1,1)=1 "
            + "set(1,1,-1) keyLength(0,1,2)!-2 set(1,1,MIN) keyLength(0,1,2)!-2 set(1,1,1) keyLength(0,1,2)=2");
    }

    private static void truth() {
        SCRIPT.run("44, 45", LINE + "note(-1)=0 note(0)!-5 came(0)!-5 send(0,2) send(2,1) note(-1)=2 note(0)=7 note(1)=6 note(2)!-5 "
            + "note(15)!-5 note(16)!-5 note(MAX)!-5 note(-2)!-2 note(MIN)!-2 came(0)=1 came(1)=1 came(2)!-5 came(16)!-5 came(MAX)!-5 "
            + "came(-1)!-2 came(-2)!-2 came(MIN)!-2");
        SCRIPT.run("48", "waits(1)=1 waits(999)=1000 waits(0)!-2 waits(1000)!-2 waits(-1)!-2 waits(MIN)!-2 waits(MAX)!-2 status(6)=1000");
        SCRIPT.run("49", "seed(0)=1 seed(-1)=0 seed(MAX)=-1 seed(MIN)=2147483647 status(10)=-2147483648");
        SCRIPT.run("52", "status(0)=3 status(12)=0 status(16)=0 status(17)=-1 status(-1)=-1 status(MIN)=-1 status(MAX)=-1 "
            + "rows(0) crowd() status(12)=1 status(13)=0 status(14)=0 status(15)=1 status(16)=0");
    }
}
