/** What is empty and what is full: no pupils, no way, the tape, rows of no elements, all shelves, the notes kept. */
public final class EmptyFullTest {
    private static final Due DUE = new Due("EmptyFullTest");
    private static final Script SCRIPT = new Script(DUE);
    private static final String ALL = Script.seated(0, 11);
    private static final String APART = "pupil(0,0,0) pupil(0,2,0) ";

    public static void main(String[] args) {
        nobody();
        one();
        two();
        all();
        allBarred();
        fullRows();
        noWay();
        tape();
        rowsOfNone();
        fullShelves();
        notes();
        notesInAnImage();
        emptyImage();
        DUE.end();
    }

    private static void nobody() {
        SCRIPT.run("1", "status(0)=3 status(1)=0 status(2)=0 status(3)=8 status(4)=4 status(5)=300 status(6)=0 status(7)=0 status(8)=0 "
            + "status(9)=0 status(10)=1 status(11)=0 status(12)=0 status(13)=0 status(14)=0 status(15)=0 status(16)=0");
        SCRIPT.run("1", "holds(0)=-1 holds(7)=-1 element(0,0)=0 at(0)=-1 at(11)=-1 school()!-20 back()!-5 note(-1)=0 suspect()=-1");
        SCRIPT.run("nobody", "show(0,0)!-2 show(0,-1)=1 holds(0)=-1 bar(0,1,true)!-2 move(0,0)!-2 swap(0,0)!-2 pupilOf(0,0)!-2 "
            + "loss(0,0)!-2 crowd()!-5 inRow(0)=0 inRow(2)=0 edges()=0 lonely()=0 reach(0)!-2");
        SCRIPT.run("nobody", "ways(0,1)!-2 fewest(0,1)!-2 surest(0,1,0,0)!-2 unread(0,1,0,0)!-2 unseen(0,1,0,0)!-2 readers(0,1)!-2 "
            + "together(0,1,2,3,0)!-2 spot(0,0,0,1)!-2 when(0,1)!-2 answer(0,1,0)!-2 halves(0,1,0)!-2 must(0,1)!-2 cut(0,1)!-2 "
            + "change(0,1,0)!-2 send(0,1)!-2 status(7)=0");
        SCRIPT.run("nobody", "row(0,3,9) judge(0,0)=-1 judge(0,1)=0 judge(0,9)=0 told(0,2,0,0)!-5");
    }

    private static void one() {
        String one = "pupil(4,6,7) ";
        SCRIPT.run("one", one + "crowd()=0 lonely()=1 edges()=0 inRow(1)=1 reach(0)=0 pupilOf(0,3)=0 pupilOf(0,4)=0 loss(0,0)=700 "
            + "swap(0,0)=0 bar(0,0,true)!-2 ways(0,0)!-2 spot(0,0,0,0)!-2 change(0,0,0)!-2 send(0,0)!-2 ways(0,1)!-2");
        SCRIPT.run("one", one + "row(0,0,2) judge(0,0)=-1 judge(0,1)=-1 judge(0,2)=1 told(0,2,0,0)!-5 show(0,0)=1 says(0,2)=0 says(0,4)=700");
    }

    private static void two() {
        SCRIPT.run("two", Script.seated(0, 1) + "crowd()=0 lonely()=0 edges()=1 ways(0,1)=1 fewest(0,1)=1 must(0,1)=0 cut(0,1)=-1 "
            + "halves(0,1,0)!-5 together(0,1,1,0,0)!-5 change(0,1,0)=-1 readers(0,1)=0 surest(0,1,0,-1)=1000000 reach(0)=2 reach(1)=1");
        SCRIPT.run("three: no two to change", Script.seated(0, 2) + "change(0,2,0)=-1 change(0,1,4)=-1");
    }

    private static void all() {
        SCRIPT.run("all", ALL + "status(1)=12 pupil(0,0,0)!-5 pupil(0,12,0)!-2 crowd()=5 lonely()=0 edges()=17 inRow(0)=15 inRow(1)=240 "
            + "inRow(2)=3840 move(0,5)!-5 spot(0,0,0,11)!-6 ways(0,11)=23 fewest(0,11)=5 must(0,11)=0 cut(0,11)=2 cut(5,0)=2 reach(0)=4094");
        SCRIPT.run("all of four rows", "rows(4) " + ALL + "pupil(0,12,0)!-6 pupil(0,0,0)!-5 inRow(3)=0 move(0,15)=0 pupil(0,0,0)!-6 at(0)=-1 "
            + "status(1)=12 rows(4)!-5");
        SCRIPT.run("all but one", Script.seated(0, 10) + "spot(0,0,0,5)=11 pupil(0,11,0)=11 pupil(0,11,0)!-5 spot(0,0,0,5)!-6");
        SCRIPT.run("change of the last two", "rows(4) pupil(0,0,0) pupil(0,2,0) pupil(4,12,9) pupil(4,8,9) pupil(4,9,9) pupil(4,10,9) "
            + "pupil(4,11,9) pupil(4,13,9) pupil(4,14,9) pupil(4,15,9) pupil(1,1,9) pupil(0,7,0) change(0,1,0)=1011");
    }

    private static void allBarred() {
        StringBuilder calls = new StringBuilder(ALL);
        for (int p = 0; p < 12; p++) {
            for (int q = p + 1; q < 12; q++) {
                calls.append("bar(").append(p).append(',').append(q).append(",true) ");
            }
        }
        SCRIPT.run("all barred", calls + "status(2)=66 pupilOf(0,4)=4094 pupilOf(11,4)=2047 edges()=0 lonely()=4095 crowd()=0 ways(0,1)=0 "
            + "fewest(0,1)=-1 cut(0,1)=0 reach(0)=0 bar(11,10,true)=0 bar(11,10,false)=1 status(2)=65 edges()=1 crowd()=10 lonely()=1023");
    }

    private static void fullRows() {
        SCRIPT.run("a full room of two rows", "rows(2) " + Script.seated(0, 7) + "pupil(0,0,0)!-5 pupil(0,8,0)!-2 spot(0,0,0,7)!-5 move(0,7)!-5 "
            + "[pupil 0 7 0] school()!-28 [pupil 0 8 0] school()!-28 status(1)=8 edges()=10 crowd()=1");
    }

    private static void noWay() {
        SCRIPT.run("no way", APART + "ways(0,1)=0 fewest(0,1)=-1 surest(0,1,0,-1)!-5 surest(0,1,0,0)!-5 unread(0,1,0,-1)!-5 "
            + "unseen(0,1,0,-1)!-5 readers(0,1)!-5 when(0,1)!-5 answer(0,1,0)!-5 halves(0,1,0)!-5 must(0,1)!-5 cut(0,1)=0 "
            + "change(0,1,0)=-1 send(0,1)!-5 status(6)=0 status(7)=0 status(10)=1 note(-1)=0");
        SCRIPT.run("no way that nobody reads", "pupil(0,0,0) pupil(2,1,0) pupil(0,2,0) unread(0,2,0,-1)!-5 surest(0,2,0,-1)=1000000 "
            + "readers(0,2)=1 reach(0)=2 ways(0,2)=1");
        SCRIPT.run("no way that isn't seen", Script.seated(0, 2) + "unseen(0,2,3,-1)!-5 unseen(0,2,2,-1)=1000000 master(1,0) "
            + "unseen(0,2,2,-1)!-5 when(0,2)=0");
        SCRIPT.run("ways of no chance", Script.seated(0, 2) + "master(1,0) master(2,1000) ways(0,2)=1 surest(0,2,0,-1)=0 surest(0,2,0,1)=1 "
            + "unread(0,2,0,-1)=0 when(0,2)=0 answer(0,2,0)=0 must(0,2)=2 change(0,2,0)=-1");
        SCRIPT.run("two ways of no chance", "pupil(0,0,0) pupil(0,1,0) pupil(0,4,0) pupil(0,5,0) master(1,0) master(2,1000) "
            + "halves(0,3,0)=0 together(0,1,2,3,0)=0 together(0,3,1,2,0)!-5");
    }

    private static void tape() {
        SCRIPT.run("15, 16: the tape empty", "status(9)=0 wipe()=0 school()!-20 status(9)=0 wipe()=0");
        SCRIPT.run("14 to 16: the tape full", "250*feed(59) feed(59)!-6 feed(256)!-2 status(9)=250 school()!-20 status(9)=0 feed(0)=1");
        SCRIPT.run("15: the tape full", "250*feed(32) wipe()=250 wipe()=0 feed(1)=1 wipe()=1 status(9)=0");
        SCRIPT.run("16: blanks alone", "feed(32) school()!-21 249*feed(32) school()!-269");
        SCRIPT.run("16: blanks alone", "250*feed(32) school()!-270");
        SCRIPT.run("16: empty either way", "[rows 4] school()=1 status(9)=0 [rows 5] school()!-25 status(9)=0 [rows] school()!-24 "
            + "status(9)=0 [ 4] school()!-21 status(0)=4");
    }

    private static void rowsOfNone() {
        String none = "row(0,2,0) row(7,2,0) row(1,2,3) ";
        SCRIPT.run("rows of no elements", none + "holds(0)=2 status(11)=3 element(0,0)=0 set(0,0,1)!-2 copy(0,7,0,0,0)=0 copy(0,7,0,0,1)!-2 "
            + "copy(0,7,1,0,0)!-2 copy(0,7,0,1,0)!-2 copy(1,0,3,0,0)=0 copy(1,0,0,0,1)!-2 copy(0,1,0,3,0)=0 copy(0,1,0,0,1)!-2 "
            + "copy(0,0,0,0,0)=0");
        SCRIPT.run("rows of no elements", none + "judge(0,0)=-1 judge(0,1)!-2 told(0,2,0,0)!-2 code(0,1,0)=0 code(0,1,1)!-2 code(1,0,0)!-5 "
            + "code(1,0,3)!-5 code(1,0,4)!-2 code(0,0,0)!-5 keyLength(0,7,0)=0 keyLength(0,1,0)=0 keyLength(1,0,0)=0 "
            + "keyLength(0,1,1)!-2 keyLength(1,0,1)!-2");
        SCRIPT.run("rows of no elements", "row(0,4,0) row(1,0,0) copy(0,1,0,0,0)!-3 copy(1,0,0,0,0)!-3 copy(0,2,0,0,0)!-4");
    }

    private static void fullShelves() {
        SCRIPT.run("all shelves", "pupil(0,0,0) row(0,0,1) row(1,1,1) row(2,2,1) row(3,3,1) row(4,4,1) status(11)=5 show(5,0) show(6,0) "
            + "row(7,0,0) status(11)=8 holds(5)=10 holds(6)=10 holds(7)=0 row(0,4,0)=1 status(11)=8 show(1,0)=1 status(11)=8 "
            + "show(5,-1)=1 status(11)=7 show(5,-1)=1 status(11)=7 show(0,-1)=1 status(11)=6 holds(0)=-1 element(0,0)=0");
        SCRIPT.run("a new row is empty", "row(0,3,2) set(0,0,5) set(0,1,6) row(0,3,2)=1 element(0,0)=0 element(0,1)=0 set(0,1,7) row(0,3,1) "
            + "element(0,1)=0 row(0,3,40) element(0,1)=0 element(0,39)=0");
        SCRIPT.run("a new row is smaller", "row(0,3,5) set(0,4,5) row(0,2,4) set(0,4,1)!-2 element(0,4)=0 holds(0)=2");
    }

    private static void notes() {
        // One note from 1 to 2, then those from 0 to 1; the last hand, of the seventeenth, from 0 to 2.
        String three = Script.seated(0, 2) + "master(1,0) master(2,1000) ";
        SCRIPT.run("44, 45: fifteen", three + "send(1,2) 14*send(0,1) note(-1)=15 note(14)=3 note(15)!-5 came(15)!-5 note(0)=6");
        SCRIPT.run("44, 45: sixteen", three + "send(1,2) 15*send(0,1) note(-1)=16 note(0)=6 note(15)=3 note(16)!-5 came(16)!-5 came(15)=0");
        SCRIPT.run("44, 45: seventeen", three + "send(1,2) 15*send(0,1) master(2,0) send(0,2)=1 note(-1)=16 note(0)=3 note(14)=3 note(15)=7 "
            + "note(16)!-5 came(0)=0 came(14)=0 came(15)=1 status(7)=17 status(8)=1 suspect()=-1");
        SCRIPT.run("44, 45: thirty-two and one", three + "16*send(0,1) 16*send(1,2) note(0)=6 note(15)=6 send(0,2) note(0)=6 note(14)=6 note(15)=7 "
            + "status(7)=33 status(8)=0 suspect()=1 note(-1)=16");
        SCRIPT.run("46: the sixteenth is the fifteenth then", three + "15*send(0,1) send(0,2) suspect()=1 send(0,1) suspect()=1 14*send(0,1) "
            + "suspect()=1 send(0,1) suspect()=-1");
        SCRIPT.run("46: the note is gone that was lost", three + "send(0,2) suspect()=1 15*send(0,1) suspect()=1 send(0,1) suspect()=-1");
        SCRIPT.run("46: the note is gone that came", three + "master(2,0) send(0,2)=1 master(2,1000) send(0,2)=0 suspect()=-1 14*send(0,1) "
            + "suspect()=-1 send(0,1) suspect()=1");
    }

    private static void notesInAnImage() {
        SCRIPT.run("50, 51: sixteen notes", Script.seated(0, 2) + "master(1,0) master(2,1000) send(0,2) 15*send(0,1) image() master(2,0) "
            + "16*send(1,2) note(0)=6 came(0)=1 suspect()=-1 status(7)=32 back()=1 note(-1)=16 note(0)=7 note(15)=3 came(0)=0 suspect()=1 "
            + "status(7)=16 status(8)=0 status(5)=1000");
    }

    private static void emptyImage() {
        SCRIPT.run("50, 51: nobody", "image()=1 rows(4) " + Script.seated(0, 11) + "show(0,0) show(7,11) row(3,1,2) [rows] send(0,1) bar(0,1,true) "
            + "master(0,5) waits(9) seed(5) back()=1 status(0)=3 status(1)=0 status(2)=0 status(3)=8 status(6)=0 status(7)=0 status(10)=1 "
            + "status(9)=4 status(11)=1 holds(0)=-1 holds(7)=-1 holds(3)=1 note(-1)=0 crowd()!-5 [2] school()=1 status(0)=2 pupil(0,0,0)=0 "
            + "pupilOf(0,3)=0 pupilOf(0,4)=0");
        SCRIPT.run("50, 51: all", "rows(4) " + ALL + "image()=1 show(0,11) move(11,15) bar(11,0,true) swap(0,10) back()=1 holds(0)=21 says(0,0)=11 "
            + "pupilOf(11,4)=0 pupilOf(0,1)=0 pupil(0,15,0)!-6");
        SCRIPT.run("51: numbers that are there again", "pupil(0,0,0) image() pupil(1,1,1) show(0,1) show(1,0) back()=1 holds(0)=-1 holds(1)=10 "
            + "pupil(5,2,2)=1 holds(0)=-1 image()=1 show(0,1)=1 back()=1 holds(0)=11 says(0,5)=2");
    }
}
