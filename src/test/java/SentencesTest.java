import java.io.IOException;
import java.nio.charset.StandardCharsets;
import java.nio.file.Files;
import java.nio.file.Path;
import java.util.ArrayList;
import java.util.List;

/** The document from its first term to its last promise, sentence by sentence, each with the calls that show whether it holds. */
public final class SentencesTest {
    private static final Due DUE = new Due("SentencesTest");
    private static final Script SCRIPT = new Script(DUE);
    private static final List<String> QUOTED = new ArrayList<>();
    private static final String LINE = Script.seated(0, 2);
    private static final String LINE_OF_FOUR = Script.seated(0, 3);
    private static final String SQUARE = "pupil(0,0,0) pupil(0,1,0) pupil(0,4,0) pupil(0,5,0) ";
    private static final String ALL = Script.seated(0, 11);
    private static final String ONE_OF_EACH = "pupil(0,0,4) pupil(1,1,4) pupil(2,2,4) pupil(3,3,4) pupil(4,4,4) pupil(5,5,4) ";
    /** Ten pupils in one line through four rows. */
    private static final String SNAKE = "rows(4) pupil(0,0,0) pupil(0,1,0) pupil(0,2,0) pupil(0,3,0) pupil(0,7,0) pupil(0,11,0) "
        + "pupil(0,10,0) pupil(0,9,0) pupil(0,8,0) pupil(0,12,0) ";
    /** From 0 to 4 by 5 in two hands, by 1, 2 and 3 in four. */
    private static final String TWO_WAYS = "pupil(0,0,0) pupil(0,4,0) pupil(0,5,0) pupil(0,6,0) pupil(0,2,0) pupil(0,1,0) bar(2,5,true) ";
    /** Two squares with a bridge of 6 and 7 between; 0 and 1 are at the far corners. */
    private static final String BRIDGE = "pupil(0,0,0) pupil(0,3,0) pupil(0,1,0) pupil(0,4,0) pupil(0,2,0) pupil(0,7,0) pupil(0,5,0) "
        + "pupil(0,6,0) bar(2,4,true) ";

    public static void main(String[] args) throws IOException {
        desksAndPupils();
        theMaster();
        theTape();
        theFault();
        aWay();
        lossAndChance();
        fewestToAnswer();
        halvesToReach();
        toldToChange();
        codes();
        inTruth();
        shelves();
        refusals();
        promisesOfShelves();
        promisesOfPupils();
        promisesOfTheTape();
        promisesOfWhatThereIs();
        promisesOfWays();
        promisesOfSurest();
        promisesOfTwoWays();
        promisesOfTheClass();
        promisesOfSeconds();
        promisesOfHands();
        promisesOfToldWays();
        promisesOfCodes();
        promisesOfNotes();
        promisesOfTruth();
        lastCall();
        isWhole(Path.of("../shared/DOC.md"));
        DUE.end();
    }

    private static void of(String sentence, String... runs) {
        QUOTED.add(sentence);
        for (String run : runs) {
            SCRIPT.run(sentence.length() > 70 ? sentence.substring(0, 70) + " .." : sentence, run);
        }
    }

    // ---- 1. THE CLASS ----

    private static void desksAndPupils() {
        of("1. THE CLASS");
        of("DESKS are 0 to 4 n less 1: 4 times the row (0 to n less 1, n 2 to 4; 3 at first) and the column.",
            "at(0)=-1 at(11)=-1 at(-1)!-2 at(12)!-2 pupil(0,6,0)=0 inRow(0)=0 inRow(1)=1 inRow(2)=0 inRow(3)!-2 status(0)=3",
            "rows(2)=3 at(7)=-1 at(8)!-2 pupil(0,4,0) inRow(1)=1", "rows(4)=3 at(15)=-1 at(16)!-2 pupil(0,15,0) inRow(3)=1",
            "rows(1)!-2 rows(5)!-2");
        of("PUPILS have numbers, 0 on, 12 at most, each of a KIND:",
            "rows(4) pupil(0,15,0)=0 pupil(5,14,0)=1 " + Script.seated(0, 8) + "pupil(0,9,0)=11 pupil(0,10,0)!-6 pupilOf(0,0)=0 "
            + "pupilOf(1,0)=5");
        of("0 PUPIL; 1 GOOD, 2 READER, 5 TWIN, each under PUPIL; 3 ADDER, 4 KEEPER, each under READER;",
            ONE_OF_EACH + "show(0,0) says(0,0)=0 says(0,1)!-3 says(0,2)!-3 says(0,3)!-3 says(0,4)!-3 says(0,5)!-3 show(1,1) "
            + "says(1,0)=1 says(1,1)=540 says(1,2)!-3 says(1,3)!-3 says(1,4)!-3 says(1,5)!-3",
            ONE_OF_EACH + "show(2,2) says(2,0)=2 says(2,1)!-3 says(2,2)=2 says(2,3)!-3 says(2,4)!-3 says(2,5)!-3 show(3,3) says(3,0)=3 "
            + "says(3,1)!-3 says(3,2)=1 says(3,3)=4 says(3,4)!-3 says(3,5)!-3",
            ONE_OF_EACH + "show(4,4) says(4,0)=4 says(4,1)!-3 says(4,2)=2 says(4,3)!-3 says(4,4)=400 says(4,5)!-3 show(5,5) "
            + "says(5,0)=5 says(5,1)!-3 says(5,2)!-3 says(5,3)!-3 says(5,4)!-3 says(5,5)=2", "pupil(-1,0,0)!-2 pupil(6,0,0)!-2");
        of("at a DESK (none two at one), a (0 to 9).",
            "pupil(0,3,0)=0 pupil(0,3,9)!-5 pupil(0,4,9)=1 pupil(0,5,10)!-2 pupil(0,5,-1)!-2 move(1,3)!-5 pupilOf(0,1)=3 "
            + "pupilOf(0,2)=0 pupilOf(1,2)=9");
        of("BARRED are pairs of PUPILS (none at first) that don't pass to each other.",
            LINE + "status(2)=0 pupilOf(1,4)=0 ways(0,2)=1 bar(2,1,true)=1 status(2)=1 pupilOf(1,4)=4 pupilOf(2,4)=2 ways(0,2)=0 "
            + "ways(2,0)=0 ways(0,1)=1");
        of("NEIGHBOURS: PUPILS who aren't BARRED and whose DESKS are beside each other (rows apart and columns apart together 1).",
            "pupil(0,5,0) pupil(0,1,0) pupil(0,4,0) pupil(0,6,0) pupil(0,9,0) pupil(0,0,0) pupil(0,2,0) pupil(0,8,0) pupil(0,10,0) "
            + "pupil(0,7,0) pupilOf(0,3)=30 pupilOf(9,3)=8 bar(0,3,true)=1 pupilOf(0,3)=22 pupilOf(3,3)=832",
            "pupil(0,3,0) pupil(0,4,0) edges()=0 lonely()=3 move(1,7)=4 edges()=1");
    }

    private static void theMaster() {
        of("THE MASTER: TERM p (1 to 20; 8 at first), BACK b (0 to p; 4 at first): at a SECOND s he has his back turned, if s modulo p "
            + "is below b; EYE (0 to 1000; 300 at first).",
            "status(3)=8 status(4)=4 status(5)=300 pupil(0,0,0) loss(0,0)=0 loss(0,3)=0 loss(0,4)=300 loss(0,7)=300 loss(0,8)=0 "
            + "loss(0,11)=0 loss(0,12)=300",
            "pupil(0,0,0) master(0,20)=8 master(1,20)=4 master(2,1000)=300 loss(0,19)=0 master(1,0)=20 loss(0,0)=1000 master(0,1)=20 "
            + "loss(0,0)=1000 master(1,1)=0 loss(0,9999)=0 master(2,0)=1000",
            "master(0,0)!-2 master(0,21)!-2 master(1,9)!-2 master(1,-1)!-2 master(2,-1)!-2 master(2,1001)!-2");
    }

    private static void theTape() {
        of("A CLASS is read from THE TAPE (bytes, 250 at most).", "[rows 4] feed(32)=7 school()=1 status(0)=4 feed(256)!-2 feed(-1)!-2",
            "249*feed(32) feed(255)=250 feed(32)!-6 status(9)=250");
        of("TOKENS, each as long as can be: WORDS (a .. z), NUMBERS (digits), the SIGN ; - blanks (32) may stand anywhere between.",
            "[rows4;pupil0 15 9;master3 2 1] school()=3 status(0)=4 at(15)=0 status(3)=3",
            "[  rows  2  ;  pupil  0  7  0  ] school()=2 at(7)=0",
            Script.fault("^ro ws 4") + Script.fault("rows ^40") + Script.fault("pupil 0 0 0 ^0") + Script.fault("^rowsrows 4")
            + Script.fault("rows^\t4") + "[pupil 0 10 0] school()=1 at(10)=0");
        of("STATEMENTS, one or more, with ; between:",
            "[rows 4] school()=1 [rows 2;rows 3] school()=2 " + Script.fault("^") + Script.fault("^;")
            + Script.fault("rows 4;^;rows 4") + Script.fault("rows 4 ^rows 2") + Script.fault("rows 4;^"));
        of("rows N (only if there are no PUPILS);",
            "[rows 2] school()=1 status(0)=2 [pupil 0 0 0] school()=1 " + Script.fault("^rows 3") + "status(0)=2");
        of("pupil K D A;", "[pupil 4 9 7] school()=1 pupilOf(0,0)=4 pupilOf(0,1)=9 pupilOf(0,2)=7");
        of("bar P Q;", LINE + "[bar 2 0] school()=1 pupilOf(0,4)=4 pupilOf(2,4)=1 status(2)=1 [bar 0 2] school()=1 status(2)=1");
        of("move P D (to a free DESK);",
            LINE + "[move 2 7] school()=1 at(7)=2 at(2)=-1 " + Script.fault("move 2 ^1") + Script.fault("move 2 ^7"));
        of("master P B E (TERM, BACK, EYE).", "[master 19 17 23] school()=1 status(3)=19 status(4)=17 status(5)=23");
        of("All comes to what there is, or nothing.",
            "pupil(1,0,1) [pupil 2 1 2;bar 0 1] school()=2 status(1)=2 pupilOf(0,0)=1 pupilOf(1,0)=2 pupilOf(1,4)=1 "
            + Script.fault("move 0 5;master 1 1 1;pupil 0 2 0;bar 0 2;bar 1 ^3") + "status(1)=2 pupilOf(0,1)=0 status(3)=8 status(2)=1",
            Script.fault("rows 2;^x") + "status(0)=3");
    }

    private static void theFault() {
        String two = "pupil(0,0,0) pupil(0,1,0) ";
        of("The FAULT: the place of the first byte of the first TOKEN that can't stand there",
            Script.fault("rows ^rows") + Script.fault("rows ^;") + Script.fault("^7") + Script.fault("^desk 3")
            + Script.fault("  rows   2   ^3") + Script.fault("pupil 0 ^; 0"));
        of("(also a NUMBER that may not be, or has more than 4 digits;",
            Script.fault("rows ^1") + Script.fault("rows ^5") + Script.fault("pupil ^6 0 0") + Script.fault("pupil 0 ^12 0")
            + Script.fault("pupil 0 0 ^10") + Script.fault("bar ^0 1") + Script.fault("move ^0 1"),
            Script.fault("master ^0 0 0") + Script.fault("master ^21 0 0") + Script.fault("master 5 ^6 0")
            + Script.fault("master 5 5 ^1001") + Script.fault("rows ^00002") + "[rows 0002] school()=1 status(0)=2",
            two + Script.fault("bar ^2 0") + Script.fault("bar 0 ^2") + Script.fault("move ^2 5") + Script.fault("move 0 ^12")
            + Script.fault("move 0 ^00005"));
        of("rows, if there are PUPILS: its word;", "pupil(0,0,0) " + Script.fault("^rows 9") + Script.fault("move 0 1;^rows"),
            Script.fault("pupil 0 0 0;^rows 3"));
        of("a DESK that's taken: D;",
            two + Script.fault("pupil 0 ^1 99") + Script.fault("move 0 ^1") + Script.fault("move 0 ^0")
            + Script.fault("move 0 5;pupil 0 ^5 0") + "[move 0 5;pupil 0 0 0] school()=2");
        of("the same PUPIL: Q;", two + Script.fault("bar 1 ^1") + Script.fault("bar 0 ^0;x"));
        of("what there is no room for: its word;",
            "rows(4) " + ALL + Script.fault("^pupil 9 99 99") + Script.fault("^pupil 0 12 0") + "status(1)=12");
        of("a byte that begins none);",
            Script.fault("^Rows 3") + Script.fault("rows 3^,") + Script.fault("rows ^-3") + Script.fault("rows 3;^\u00e9")
            + Script.fault("^\n"));
        of("THE TAPE's size, if it ends too early.",
            Script.fault("rows^") + Script.fault("rows  ^") + Script.fault("pupil 0 0^") + Script.fault("rows 3;^") + Script.fault("^")
            + Script.fault("   ^"));
    }

    // ---- 2. A WAY ----

    private static void aWay() {
        of("2. A WAY");
        of("A WAY from A to B (not the same): PUPILS, none twice, from A to B, each the NEIGHBOUR of the one ahead; 9 at most (8 "
            + "HANDS).",
            SQUARE + "ways(0,3)=2 ways(0,1)=2 ways(1,2)=2 ways(0,0)!-2 surest(0,3,0,0)=0 surest(0,3,0,1)=1 surest(0,3,0,2)=3 "
            + "surest(0,3,0,3)!-5", SNAKE + "ways(0,8)=1 fewest(0,8)=8 surest(0,8,0,8)=8 ways(0,9)=0 ways(1,9)=1");
        of("It takes SECONDS: each HAND (from one to the next) 1, if he who gives it is a TWIN 2; the first HAND begins at the SECOND "
            + "it is sent.",
            "pupil(5,0,0) pupil(0,1,0) pupil(5,2,0) row(0,0,3) set(0,1,1) set(0,2,2) told(0,3,0,1)=3 told(0,2,0,1)=2 set(0,0,2) "
            + "set(0,2,0) told(0,3,0,1)=3 told(0,2,0,1)=2 set(0,0,1) set(0,1,0) told(0,2,0,1)=1",
            "pupil(5,0,0) pupil(0,1,0) pupil(0,2,0) surest(0,2,1,-1)=1000000 surest(0,2,2,-1)=700000 surest(0,1,3,-1)=1000000 "
            + "surest(0,1,4,-1)=700000");
    }

    private static void lossAndChance() {
        of("LOSS of one who gets it (of 1000): PUPIL, READER, ADDER, TWIN: 10 times a; GOOD: 500 and 10 times a; KEEPER: 100 times a; "
            + "of B: 0.",
            ONE_OF_EACH + "loss(0,0)=40 loss(1,0)=540 loss(2,0)=40 loss(3,0)=40 loss(4,0)=400 loss(5,0)=40 surest(0,4,0,-1)=1000000 "
            + "surest(2,1,0,-1)=1000000 surest(1,4,0,-1)=960000 master(1,8) bar(4,5,true) surest(5,4,0,-1)=441600");
        of("A HAND that begins when THE MASTER looks (his back isn't turned): EYE more (1000 at most in all).",
            ONE_OF_EACH + "loss(0,4)=340 loss(1,4)=840 loss(4,4)=700 surest(0,4,4,-1)=700000 master(2,600) loss(1,4)=1000 "
            + "loss(4,4)=1000 loss(0,4)=640 loss(0,8)=40 surest(0,4,4,-1)=400000 surest(0,2,4,-1)=0");
        of("CHANCE of a WAY: of 1,000,000, HAND by HAND times 1000 less LOSS by 1000 (cut each time).",
            LINE_OF_FOUR + "pupil(0,7,0) master(1,0) master(2,1) surest(0,1,0,-1)=999000 surest(0,2,0,-1)=998001 "
            + "surest(0,3,0,-1)=997002 surest(0,4,0,-1)=996004");
        of("READ by: READERS (ADDERS, KEEPERS) between A and B.",
            "pupil(2,0,0) pupil(3,1,0) pupil(1,2,0) pupil(4,3,0) pupil(2,7,0) pupil(5,11,0) row(0,0,6) set(0,1,1) set(0,2,2) "
            + "set(0,3,3) set(0,4,4) set(0,5,5) told(0,2,0,2)=0 told(0,3,0,2)=2 told(0,4,0,2)=2 told(0,5,0,2)=10 told(0,6,0,2)=26 "
            + "readers(0,5)=3");
        of("SUREST: of all WAYS the one with the greatest CHANCE, of several the one of the fewest HANDS, of several the first (by "
            + "rows of numbers).", SQUARE + "surest(0,3,0,1)=1 surest(3,0,0,1)=1 surest(1,2,0,1)=0",
            "pupil(0,0,0) pupil(0,1,1) pupil(0,4,0) pupil(0,5,0) surest(0,3,0,1)=2 surest(3,0,0,1)=2",
            TWO_WAYS + "surest(0,4,0,1)=5 surest(0,4,0,2)=4 surest(0,4,0,3)!-5",
            "pupil(0,5,0) pupil(0,4,0) pupil(0,1,0) pupil(0,0,0) pupil(0,6,0) surest(4,3,0,2)=1");
    }

    // ---- 3. WHAT COMES OF IT ----

    private static void fewestToAnswer() {
        of("3. WHAT COMES OF IT (nothing is changed)",
            SQUARE + "row(0,0,2) set(0,1,1) ways(0,3)=2 fewest(0,3)=2 surest(0,3,0,-1)=1000000 unread(0,3,0,-1)=1000000 "
            + "unseen(0,3,0,-1)=1000000 readers(0,3)=0 together(0,1,2,3,0)=1000000 spot(0,0,0,3)=2 when(0,3)=0 answer(0,3,0)=1000000 "
            + "halves(0,3,0)=1000000 must(0,3)=0 cut(0,3)=2 reach(0)=14 judge(0,2)=-1 told(0,2,0,0)=1000000 change(0,3,0)=-1 "
            + "keyLength(0,0,2)=1 suspect()=-1");
        of("FEWEST: the fewest HANDS of a WAY.", TWO_WAYS + "fewest(0,4)=2 fewest(1,5)=2 bar(4,5,true) fewest(0,4)=4 fewest(0,5)=1");
        of("UNREAD: the SUREST of the WAYS that nobody between reads.",
            "pupil(0,0,0) pupil(2,1,0) pupil(0,4,5) pupil(0,5,0) surest(0,3,0,1)=1 unread(0,3,0,1)=2 unread(0,3,0,-1)=950000 "
            + "unread(0,1,0,-1)=1000000", "pupil(0,0,0) pupil(3,1,0) pupil(1,4,0) pupil(0,5,0) unread(0,3,0,-1)=500000",
            "pupil(0,0,0) pupil(4,1,0) pupil(5,4,0) pupil(0,5,0) unread(0,3,3,1)=2");
        of("WHEN: the SECOND (0 to p less 1) to send it with the greatest CHANCE by SUREST, of several the first.",
            "pupil(0,0,0) pupil(0,1,0) pupil(4,2,4) pupil(0,3,0) master(0,3) master(1,1) master(2,500) surest(0,3,0,-1)=50000 "
            + "surest(0,3,1,-1)=50000 surest(0,3,2,-1)=150000 when(0,3)=2 when(0,1)=0 master(1,0) when(0,3)=0 master(1,3) when(0,3)=0");
        of("ANSWER: CHANCE by SUREST there, times that of the SUREST back, sent when it would arrive, by 1,000,000 (cut).",
            "pupil(5,0,0) pupil(0,1,0) pupil(0,2,0) answer(0,2,0)=700000 answer(0,2,1)=490000 answer(2,0,0)=700000 "
            + "answer(2,0,1)=700000 answer(2,0,2)=490000", LINE + "master(1,0) master(2,1) answer(0,2,0)=996005",
            "pupil(0,0,0) pupil(0,1,2) pupil(0,2,0) answer(0,2,0)=960400");
    }

    private static void halvesToReach() {
        of("HALVES: of all two WAYS that have nobody between in common (and aren't both of one HAND) the greatest CHANCE of both "
            + "together (the one times the other by 1,000,000, cut; both sent at the same SECOND).",
            "pupil(0,0,0) pupil(0,1,1) pupil(0,4,2) pupil(0,5,0) halves(0,3,0)=970200 halves(0,1,0)=980000 halves(0,3,3)=475398 "
            + "halves(0,3,4)=229908", LINE + "halves(0,2,0)!-5 halves(0,1,0)!-5",
            SQUARE + "master(1,0) master(2,1) halves(0,3,0)=996005");
        of("MUST: PUPILS (bits) who are between in each WAY.",
            BRIDGE + "must(0,1)=192 must(0,6)=0 must(0,7)=64 must(6,7)=0 must(1,6)=128");
        of("CUT: the fewest PUPILS between without whom there is no WAY (of any length); NONE: NEIGHBOURS.",
            BRIDGE + "cut(0,1)=1 cut(0,6)=2 cut(0,7)=1 cut(6,7)=-1 cut(0,2)=-1 bar(6,7,true) cut(0,1)=0 cut(6,7)=0 bar(2,4,false) "
            + "cut(0,1)=1", SNAKE + "ways(0,9)=0 cut(0,9)=1 cut(0,8)=1 cut(0,1)=-1",
            Script.seated(0, 1) + "pupil(0,10,0) pupil(0,11,0) cut(0,3)=0 cut(1,2)=0",
            "pupil(0,0,0) pupil(0,10,0) pupil(0,5,0) pupil(0,1,0) pupil(0,4,0) pupil(0,6,0) pupil(0,9,0) cut(0,1)=1 cut(1,0)=1 cut(3,6)=1",
            "pupil(0,8,0) pupil(0,9,0) pupil(0,10,0) pupil(0,4,0) pupil(0,6,0) pupil(0,0,0) pupil(0,1,0) pupil(0,2,0) pupil(0,5,0) "
            + "cut(1,6)=3 cut(0,7)=2 cut(8,5)=2");
        of("REACH of A: PUPILS (bits) to whom there is a WAY of any length that nobody between reads.",
            "pupil(0,0,0) pupil(0,1,0) pupil(2,2,0) pupil(0,3,0) pupil(3,5,0) pupil(5,9,0) reach(0)=22 reach(3)=4 reach(2)=27 "
            + "reach(4)=39 reach(5)=16", SNAKE + "reach(0)=1022");
    }

    private static void toldToChange() {
        of("A told WAY: a ROW of PUPILS: WRONG: the first that is none, is there already, or isn't the NEIGHBOUR of the one ahead; "
            + "NONE.",
            SQUARE + "row(0,0,5) set(0,1,1) set(0,2,3) set(0,3,2) judge(0,4)=-1 judge(0,5)=4 set(0,2,2) judge(0,5)=2 set(0,2,3) "
            + "set(0,3,4) judge(0,5)=3 set(0,0,-1) judge(0,5)=0 judge(0,0)=-1",
            SQUARE + "row(0,0,2) judge(0,2)=1 set(0,1,1) judge(0,2)=-1 bar(1,0,true) judge(0,2)=1 judge(0,1)=-1");
        of("CHANGE: of all two PUPILS but A and B the first by whose change of DESKS SUREST has most CHANCE (more than now); 100 times "
            + "the lesser and the other; NONE.",
            "pupil(0,0,0) pupil(0,1,5) pupil(0,2,0) pupil(0,6,4) pupil(0,11,3) change(0,2,0)=104 change(0,1,0)=-1 swap(1,4) "
            + "change(0,2,0)=-1", "pupil(0,0,0) pupil(0,1,5) pupil(0,2,0) pupil(0,6,4) pupil(0,11,4) change(0,2,0)=103 change(2,0,5)=103",
            "pupil(0,0,0) pupil(0,1,5) pupil(0,2,0) pupil(0,6,5) pupil(0,11,5) change(0,2,0)=-1",
            "pupil(0,11,0) pupil(0,1,9) pupil(0,0,0) pupil(0,2,0) change(2,3,0)=1");
    }

    private static void codes() {
        of("CODES: letters 0 to 25; of a ROW of letters and a KEY, a ROW of numbers: each letter and the number of the KEY at its "
            + "place (behind the last the first again), modulo 26.",
            "row(0,0,5) row(1,0,2) set(0,0,25) set(0,1,24) set(0,2,3) set(0,3,4) set(1,0,1) set(1,1,5) code(0,1,5)=5 element(0,0)=0 "
            + "element(0,1)=3 element(0,2)=4 element(0,3)=9 element(0,4)=1 element(1,0)=1 element(1,1)=5",
            "row(0,0,1) row(1,0,1) set(0,0,26) code(0,1,1)!-2 set(0,0,-1) code(0,1,1)!-2 set(0,0,25) code(0,1,1)=1 set(1,0,26) "
            + "code(0,1,1)!-2");
        of("KEY LENGTH of letters and their code: the least k for which a KEY of k numbers (0 to 25) would do.",
            "row(0,0,6) row(1,0,6) set(1,0,3) set(1,1,9) set(1,2,3) set(1,3,3) set(1,4,9) set(1,5,3) keyLength(0,1,6)=3 "
            + "keyLength(0,1,3)=2 keyLength(0,1,2)=2 keyLength(0,1,1)=1 keyLength(1,1,6)=1",
            "row(0,0,3) row(1,0,3) set(0,0,25) set(1,1,1) set(0,2,3) set(1,2,4) keyLength(0,1,3)=1 keyLength(1,0,3)=1");
    }

    private static void inTruth() {
        // The draws from seed 1 on: 838, 526, 113, 283.
        String keeper = "pupil(0,0,0) pupil(4,1,6) pupil(0,2,0) master(1,8) ";
        of("IN TRUTH a note is sent by SUREST: each HAND a DRAW below 1000: below LOSS it is lost there.",
            keeper + "send(0,2)=1 status(10)=-1770082073 send(0,2)=0 status(10)=662824084",
            Script.seated(0, 1) + "master(1,0) master(2,838) send(0,1)=1 seed(1) master(2,839) send(0,1)=0 master(2,0) send(0,1)=1 "
            + "master(2,1000) send(1,0)=0", "pupil(0,0,0) pupil(0,1,1) pupil(0,4,0) pupil(0,5,0) send(0,3) note(0)=13",
            TWO_WAYS + "send(0,4) note(0)=49");
        of("NOTES: the last 16 are kept: who was on the WAY (bits, all), whether it came.",
            LINE + "master(1,0) master(2,1000) send(0,2) 15*send(1,2) note(-1)=16 note(0)=7 came(0)=0 master(2,0) send(0,1) "
            + "note(-1)=16 note(0)=6 note(15)=3 came(14)=0 came(15)=1");
        of("SUSPECT: the PUPIL that was between in most lost NOTES and in none that came, of several the first; NONE: none was in a "
            + "lost one.",
            LINE_OF_FOUR + "pupil(0,7,0) pupil(0,11,0) master(1,0) suspect()=-1 master(2,1000) send(0,1) suspect()=-1 send(0,4) "
            + "suspect()=1 send(2,5) suspect()=3 master(2,0) send(2,4)=1 suspect()=1 send(0,2)=1 suspect()=2 send(1,3)=1 suspect()=4",
            LINE + "send(0,2)=1 suspect()=-1");
        of("SECONDS in truth go on by those of the WAY (to where it was lost, that HAND too).",
            keeper + "send(0,2)=1 status(6)=2 send(0,2)=0 status(6)=3",
            "pupil(5,0,0) pupil(4,1,9) pupil(0,2,0) master(1,8) send(0,2)=0 status(6)=2 send(2,1)=1 status(6)=3 send(0,1)=1 status(6)=5");
        of("A DRAW below n: SEED (1 at first) becomes SEED times 1103515245, and 12345 (an int, wrapping); its upper 16 bits, no sign, "
            + "modulo n.",
            Script.seated(0, 1) + "master(1,0) master(2,526) status(10)=1 send(0,1)=1 status(10)=1103527590 send(0,1)=1 "
            + "status(10)=-1770082073 send(0,1)=0 status(10)=662824084 send(0,1)=0 status(10)=-999580867",
            Script.seated(0, 1) + "seed(1103527590) master(1,0) master(2,527) send(0,1)=0 seed(0) send(0,1)=0 status(10)=12345");
    }

    private static void shelves() {
        of("SHELVES 0 to 7 hold NOTHING (at first), a ROW, or a PUPIL.",
            "status(11)=0 holds(0)=-1 holds(7)=-1 pupil(0,0,0) row(0,3,1)=1 show(7,0)=1 holds(0)=3 holds(7)=10 status(11)=2 "
            + "row(8,0,0)!-2 show(8,0)!-2 row(-1,0,0)!-2 row(7,4,1)=1 holds(7)=4 show(0,-1)=1 holds(0)=-1 status(11)=1");
        of("A ROW has a SORT (0 bytes, 1 shorts, 2 ints, 3 longs, 4 booleans) and 0 to 40 elements (0, or not so, at first); what is "
            + "put in keeps its lowest bits (of booleans: whether it is not 0); told they are numbers (1, 0).",
            "row(0,0,2) row(1,1,2) row(2,2,2) row(3,3,2) row(4,4,2) set(0,1,4294967496) set(1,1,4295000064) set(2,1,6442450944) "
            + "set(3,1,6442450944) set(4,1,4294967296) element(0,1)=-56 element(1,1)=-32768 element(2,1)=-2147483648 "
            + "element(3,1)=6442450944 element(4,1)=1 element(0,0)=0 element(4,0)=0",
            "row(0,0,0)=1 row(1,3,40)=1 set(1,39,MIN)=1 element(1,39)=-9223372036854775808 set(1,40,1)!-2 row(0,5,0)!-2 row(0,0,41)!-2 "
            + "row(0,0,-1)!-2");
    }

    private static void refusals() {
        of("REFUSALS (the call answers the number; nothing changes but how many there were; the first that fits as each line has them):",
            "pupil(0,0,0) show(1,0) row(2,2,3) set(1,9,9)!-3 set(3,9,9)!-4 set(2,9,9)!-2 set(8,9,9)!-2 copy(1,3,9,9,9)!-3 "
            + "copy(3,2,9,9,9)!-4 status(12)=2 status(13)=2 status(14)=2 status(15)=0");
        of("-2 BAD a number that may not be, nothing of that number.",
            "row(0,9,1)!-2 pupil(0,0,10)!-2 move(0,1)!-2 loss(0,0)!-2 status(12)=4 status(17)=-1");
        of("-3 OTHER: a SHELF that holds another thing than is wanted.",
            "pupil(0,0,0) show(0,0) row(1,0,2) set(0,0,0)!-3 says(1,0)!-3 judge(0,0)!-3 code(1,0,0)!-3 status(13)=4");
        of("-4 NOTHING: a SHELF that holds NOTHING.",
            "set(0,0,0)!-4 says(0,0)!-4 judge(0,0)!-4 copy(0,1,0,0,0)!-4 told(0,2,0,0)!-4 status(14)=5");
        of("-5 STUCK: it can't be as things stand.", "crowd()!-5 back()!-5 pupil(0,0,0) pupil(0,0,0)!-5 rows(3)!-5 status(15)=4");
        of("-6 FULL.", "rows(4) " + ALL + "pupil(0,12,0)!-6 spot(0,0,0,1)!-6 status(16)=2", "250*feed(0) feed(0)!-6 status(16)=1");
    }

    // ---- promises ----

    private static void promisesOfShelves() {
        of("UnderTheDesks(): 3 rows of DESKS, nobody; SHELVES hold NOTHING; THE TAPE is empty.",
            "status(0)=3 status(1)=0 holds(0)=-1 holds(3)=-1 holds(7)=-1 status(11)=0 status(9)=0 wipe()=0 at(11)=-1 school()!-20");
        of("int row(int s, int sort, int n): SHELF s holds a new ROW: 1. BAD.",
            "row(3,1,2)=1 holds(3)=1 set(3,1,5) row(3,1,2)=1 element(3,1)=0 row(3,1,3)=1 row(8,1,1)!-2 row(3,-1,1)!-2 row(3,5,1)!-2 "
            + "row(3,1,41)!-2 holds(3)=1");
        of("int set(int s, int i, long v): Element i of the ROW in SHELF s becomes v: 1.",
            "row(0,3,3) set(0,1,-7)=1 element(0,0)=0 element(0,1)=-7 element(0,2)=0 set(0,1,8)=1 element(0,1)=8");
        of("BAD SHELF; OTHER; NOTHING; BAD i.",
            "pupil(0,0,0) show(0,0) row(1,0,2) set(8,9,0)!-2 set(0,9,0)!-3 set(2,9,0)!-4 set(1,2,0)!-2 set(1,-1,0)!-2 set(1,1,0)=1");
        of("int copy(int p, int q, int i, int j, int n): n elements of the ROW in SHELF p from place i on come to places j on of that "
            + "in q (as they were): n.",
            "row(0,2,4) row(1,2,5) set(0,0,1) set(0,1,2) set(0,2,3) set(0,3,4) copy(0,1,1,3,2)=2 element(1,2)=0 element(1,3)=2 "
            + "element(1,4)=3 element(0,1)=2 copy(0,0,0,1,3)=3 element(0,0)=1 element(0,1)=1 element(0,2)=2 element(0,3)=3 "
            + "copy(0,0,1,0,3)=3 element(0,0)=1 element(0,1)=2 element(0,2)=3 element(0,3)=3");
        of("BAD SHELVES; OTHER (also ROWS of two SORTS, if both hold something); NOTHING; BAD the others.",
            "pupil(0,0,0) show(0,0) row(1,0,2) row(2,1,2) copy(8,0,9,9,9)!-2 copy(0,-1,9,9,9)!-2 copy(0,3,9,9,9)!-3 copy(3,0,9,9,9)!-3 "
            + "copy(1,2,9,9,9)!-3 copy(1,3,9,9,9)!-4 copy(3,2,9,9,9)!-4 copy(1,1,9,0,1)!-2 copy(1,1,0,9,1)!-2 copy(1,1,0,0,3)!-2 "
            + "copy(1,1,0,0,-1)!-2 copy(1,1,1,1,1)=1");
        of("long element(int s, int i): Element i of the ROW; 0: none, no ROW (nothing is refused).",
            "pupil(0,0,0) show(1,0) row(0,3,2) set(0,1,MAX) element(0,1)=9223372036854775807 element(0,2)=0 element(0,-1)=0 "
            + "element(1,0)=0 element(2,0)=0 element(8,0)=0 element(-1,0)=0");
        of("int holds(int s): What SHELF s holds: NONE NOTHING, no SHELF; 0 to 4 a ROW by its SORT; 10 and the number of a PUPIL.",
            ALL + "holds(0)=-1 holds(8)=-1 holds(-1)=-1 row(0,0,1) holds(0)=0 row(0,4,1) holds(0)=4 show(0,0) holds(0)=10 show(0,11) "
            + "holds(0)=21");
        of("int show(int s, int pupil): SHELF s holds a PUPIL, or NOTHING (pupil NONE): 1. BAD.",
            "pupil(0,0,0) show(0,0)=1 holds(0)=10 show(0,1)!-2 show(0,-2)!-2 holds(0)=10 show(0,-1)=1 holds(0)=-1 show(8,0)!-2 "
            + "show(-1,-1)!-2");
        of("int says(int s, int kind): What the PUPIL in SHELF s, taken for one of a KIND, says: PUPIL its DESK; GOOD, KEEPER its LOSS "
            + "(behind THE MASTER's back); READER how many NEIGHBOURS it has; ADDER its a; TWIN how many SECONDS a HAND of it takes.",
            ONE_OF_EACH + "master(1,0) show(0,1) says(0,0)=1 says(0,1)=540 show(0,4) says(0,0)=4 says(0,2)=2 says(0,4)=400 show(0,3) "
            + "says(0,0)=3 says(0,2)=1 says(0,3)=4 show(0,5) says(0,0)=5 says(0,5)=2 show(0,2) says(0,2)=2 bar(2,1,true) says(0,2)=1 "
            + "move(2,11) says(0,0)=11 says(0,2)=0");
        of("BAD SHELF, KIND; OTHER (also if it is of no such KIND nor of one under it); NOTHING.",
            "pupil(2,0,0) show(0,0) row(1,0,1) says(8,0)!-2 says(2,6)!-2 says(1,-1)!-2 says(1,0)!-3 says(0,1)!-3 says(0,3)!-3 "
            + "says(0,0)=0 says(2,0)!-4");
    }

    private static void promisesOfPupils() {
        of("int rows(int n): There are n rows: how many there were.", "rows(4)=3 rows(2)=4 status(0)=2 at(8)!-2 rows(2)=2");
        of("BAD; STUCK: there are PUPILS.", "rows(1)!-2 rows(5)!-2 pupil(0,0,0) rows(5)!-2 rows(3)!-5 rows(2)!-5 status(0)=3");
        of("int pupil(int kind, int desk, int a): A PUPIL: the number.",
            "pupil(3,7,5)=0 pupil(4,0,9)=1 pupilOf(0,0)=3 pupilOf(0,1)=7 pupilOf(0,2)=5 pupilOf(1,0)=4 status(1)=2");
        of("BAD; STUCK: the DESK is taken; FULL.",
            "rows(4) " + ALL + "pupil(6,0,0)!-2 pupil(0,16,0)!-2 pupil(0,0,10)!-2 pupil(0,0,0)!-5 pupil(0,12,0)!-6");
        of("int bar(int pupil, int other, boolean is): Two PUPILS are BARRED, or not: 1; 0 if it was so.",
            LINE + "bar(0,1,false)=0 bar(0,1,true)=1 bar(1,0,true)=0 edges()=1 bar(0,2,true)=1 status(2)=2 bar(1,0,false)=1 "
            + "bar(0,1,false)=0 edges()=2 status(2)=1 pupilOf(0,4)=4 pupilOf(1,4)=0 pupilOf(2,4)=1",
            LINE + "bar(0,1,true)=1 bar(1,2,true)=1 bar(0,2,true)=1 pupilOf(0,4)=6 pupilOf(1,4)=5 pupilOf(2,4)=3 bar(2,0,false)=1 "
            + "pupilOf(0,4)=2 pupilOf(1,4)=5 pupilOf(2,4)=2");
        of("BAD: also the same.", LINE + "bar(1,1,true)!-2 bar(1,1,false)!-2 bar(0,3,true)!-2 bar(-1,0,true)!-2 status(2)=0");
        of("int move(int pupil, int desk): A PUPIL is moved to a DESK: where he was.",
            LINE + "move(1,11)=1 at(1)=-1 at(11)=1 edges()=0 move(1,1)=11 edges()=2");
        of("BAD; STUCK: it is taken.", LINE + "move(3,0)!-2 move(0,12)!-2 move(0,-1)!-2 move(0,1)!-5 move(0,0)!-5 at(0)=0");
        of("int master(int what, int v): TERM (what 0; BACK is TERM at most then), BACK (1), EYE (2) becomes v: what it was.",
            "master(0,3)=8 status(3)=3 status(4)=3 master(0,9)=3 status(4)=3 master(1,7)=3 status(4)=7 master(2,5)=300 status(5)=5 "
            + "status(3)=9");
        of("BAD.",
            "master(-1,1)!-2 master(3,1)!-2 master(0,0)!-2 master(0,21)!-2 master(1,9)!-2 master(1,-1)!-2 master(2,1001)!-2 "
            + "master(2,-1)!-2");
    }

    private static void promisesOfTheTape() {
        of("int feed(int letter): THE TAPE gets one byte (0 to 255) behind it: its size.",
            "feed(114)=1 feed(111)=2 feed(119)=3 feed(115)=4 feed(50)=5 school()=1 status(0)=2 feed(0)=1 feed(255)=2");
        of("BAD; FULL.", "250*feed(0) feed(-1)!-2 feed(256)!-2 feed(0)!-6 status(9)=250");
        of("int wipe(): THE TAPE is empty: its size ahead.", "[rows] wipe()=4 wipe()=0 status(9)=0 [rows 4] school()=1");
        of("int school(): THE TAPE is a CLASS: how many STATEMENTS; -20 less the FAULT (that is refused, too: BAD).",
            "[rows 4;pupil 0 15 0;master 1 1 1] school()=3 at(15)=0 [bar 0 1] school()!-26 status(12)=1");
        of("THE TAPE is empty then, either way.", "[rows 4] school()=1 status(9)=0 [rows 5] school()!-25 status(9)=0 [2] school()!-20");
    }

    private static void promisesOfWhatThereIs() {
        of("int pupilOf(int pupil, int what): Of a PUPIL: KIND (0), DESK (1), a (2), NEIGHBOURS (3, bits), with whom he is BARRED (4, "
            + "bits).",
            "pupil(0,0,0) pupil(4,1,7) pupil(0,2,0) pupil(0,5,0) bar(1,2,true) pupilOf(1,0)=4 pupilOf(1,1)=1 pupilOf(1,2)=7 "
            + "pupilOf(1,3)=9 pupilOf(1,4)=4");
        of("BAD.", "pupil(0,0,0) pupilOf(1,0)!-2 pupilOf(-1,0)!-2 pupilOf(0,5)!-2 pupilOf(0,-1)!-2");
        of("int at(int desk): The PUPIL at a DESK; NONE.", "pupil(0,7,0) pupil(0,4,0) at(7)=0 at(4)=1 at(5)=-1");
        of("BAD.", "at(12)!-2 at(-1)!-2");
        of("(NONE isn't refused.)", "at(0)=-1 status(12)=0 status(15)=0");
        of("int loss(int pupil, int second): LOSS of one who gets it at a SECOND (0 to 9999), as if he weren't B.",
            "pupil(4,0,3) loss(0,0)=300 loss(0,4)=600 loss(0,9999)=600 loss(0,9995)=300");
        of("BAD.", "pupil(0,0,0) loss(1,0)!-2 loss(-1,0)!-2 loss(0,-1)!-2 loss(0,10000)!-2");
    }

    private static void promisesOfWays() {
        of("int ways(int from, int to): How many WAYS there are.",
            SQUARE + "ways(0,3)=2 bar(0,1,true) ways(0,3)=1 bar(0,2,true) ways(0,3)=0", ALL + "ways(0,11)=23 ways(11,10)=9");
        of("BAD: also the same.", LINE + "ways(0,0)!-2 ways(0,3)!-2 ways(-1,0)!-2");
        of("int fewest(int from, int to): FEWEST; NONE.", LINE + "fewest(0,2)=2 fewest(1,0)=1 bar(0,1,true) fewest(0,2)=-1");
        of("BAD: also the same.", LINE + "fewest(2,2)!-2 fewest(3,0)!-2 fewest(0,-1)!-2");
        of("(NONE isn't refused.)", "pupil(0,0,0) pupil(0,2,0) fewest(0,1)=-1 status(12)=0 status(15)=0");
    }

    private static void promisesOfSurest() {
        of("int surest(int from, int to, int second, int i): SUREST, sent at a SECOND (0 to 9999): CHANCE (i NONE), the i-th PUPIL (A "
            + "0).",
            LINE + "surest(0,2,0,-1)=1000000 surest(0,2,3,-1)=700000 surest(0,2,9999,-1)=700000 surest(2,0,0,0)=2 surest(2,0,0,1)=1 "
            + "surest(2,0,0,2)=0");
        of("BAD: also the same; STUCK: there is no WAY, not so many.",
            LINE + "pupil(0,11,0) surest(0,0,0,0)!-2 surest(0,4,0,0)!-2 surest(0,3,-1,0)!-2 surest(0,3,10000,0)!-2 surest(0,3,0,-2)!-2 "
            + "surest(0,3,0,0)!-5 surest(0,2,0,3)!-5 surest(0,3,0,-1)!-5");
        of("int unread(int from, int to, int second, int i): UNREAD: likewise.",
            "pupil(0,0,0) pupil(2,1,0) pupil(0,4,1) pupil(0,5,0) unread(0,3,0,-1)=990000 unread(0,3,3,-1)=693000 unread(0,3,0,0)=0 "
            + "unread(0,3,0,1)=2 unread(0,3,0,2)=3");
        of("BAD; STUCK.",
            "pupil(0,0,0) pupil(2,1,0) pupil(0,2,0) unread(0,0,0,0)!-2 unread(0,3,0,0)!-2 unread(0,2,10000,0)!-2 unread(0,2,0,-2)!-2 "
            + "unread(0,2,0,-1)!-5 unread(0,1,0,2)!-5");
        of("int unseen(int from, int to, int second, int i): The SUREST of the WAYS each HAND of which begins behind THE MASTER's "
            + "back, likewise.",
            LINE + "unseen(0,2,2,-1)=1000000 unseen(0,2,2,1)=1 unseen(0,2,3,-1)!-5 unseen(0,2,7,-1)!-5 surest(0,2,7,-1)=700000 "
            + "unseen(0,2,8,-1)=1000000", "pupil(5,0,0) pupil(0,1,0) unseen(0,1,3,-1)=1000000 unseen(0,1,3,1)=1",
            // By the twin of the long way the last hand would begin at 4.
            "pupil(0,0,0) pupil(0,4,0) pupil(5,5,0) pupil(0,6,0) pupil(0,2,0) pupil(1,1,2) bar(2,5,true) surest(0,4,0,-1)=700000 "
            + "surest(0,4,0,1)=1 unseen(0,4,0,-1)=480000 unseen(0,4,0,1)=5");
        of("BAD; STUCK.",
            LINE + "unseen(0,0,0,0)!-2 unseen(0,3,0,0)!-2 unseen(0,2,10000,0)!-2 unseen(0,2,0,-2)!-2 unseen(0,2,3,-1)!-5 "
            + "unseen(0,2,2,3)!-5 unseen(0,2,4,1)!-5");
        of("int readers(int from, int to): By how few it is READ on some WAY.",
            "pupil(0,0,0) pupil(2,1,0) pupil(3,4,0) pupil(4,5,0) pupil(0,2,0) pupil(0,6,0) readers(0,4)=1 readers(0,3)=1 "
            + "readers(0,1)=0 bar(0,1,true) readers(0,4)=2 readers(0,1)=2 readers(0,5)=2");
        of("BAD: also the same; STUCK: there is no WAY.", "pupil(0,0,0) pupil(0,2,0) readers(0,0)!-2 readers(0,2)!-2 readers(0,1)!-5");
    }

    private static void promisesOfTwoWays() {
        of("int together(int from, int to, int other, int last, int second): Two notes at once, the second from another to a last: of "
            + "all two WAYS that have nobody at all in common the greatest CHANCE of both (the one times the other by 1,000,000, cut).",
            SQUARE + "together(0,1,2,3,0)=1000000 together(0,1,2,3,4)=490000 together(3,2,0,1,3)=1000000 master(1,0) master(2,1) "
            + "together(0,1,3,2,0)=998001",
            // From 0 to 2 by 1, as 3, 4 and 5 in the row below have a note of their own.
            "pupil(0,0,0) pupil(0,1,3) pupil(0,2,0) pupil(0,4,0) pupil(0,5,0) pupil(0,6,0) surest(0,2,0,-1)=1000000 "
            + "together(0,2,3,5,0)=970000");
        of("BAD: also the same; STUCK: there are none such.",
            SQUARE + "together(0,0,1,2,0)!-2 together(0,1,2,2,0)!-2 together(0,4,1,2,0)!-2 together(0,1,2,4,0)!-2 "
            + "together(0,1,2,3,10000)!-2 together(0,3,1,2,0)!-5 together(0,1,1,3,0)!-5 together(0,1,0,1,0)!-5");
        of("int spot(int kind, int a, int from, int to): The free DESK for one PUPIL more of a KIND and a by whom CHANCE of SUREST "
            + "from A to B, sent at SECOND 0, is most (no WAY: less than any), of several the first.",
            "pupil(0,4,0) pupil(0,6,0) spot(0,0,0,1)=5 spot(4,9,0,1)=5 master(1,0) master(2,1000) spot(0,0,0,1)=5 move(1,11) "
            + "spot(0,0,0,1)=0", "pupil(0,0,0) pupil(0,5,0) spot(0,0,0,1)=1 pupil(0,1,1) spot(0,0,0,1)=4 spot(0,1,0,1)=2 spot(0,9,0,1)=2",
            "pupil(0,0,0) pupil(0,3,0) pupil(1,1,0) pupil(0,4,0) pupil(0,5,0) pupil(0,7,0) master(1,5) spot(0,0,0,1)=6 waits(3) "
            + "spot(0,0,0,1)=6 master(2,600) master(1,4) spot(0,0,0,1)=2");
        of("BAD: also the same; FULL; STUCK: no DESK is free.",
            ALL + "spot(6,0,0,1)!-2 spot(0,10,0,1)!-2 spot(0,0,1,1)!-2 spot(0,0,0,12)!-2 spot(0,0,0,1)!-6",
            "rows(2) " + Script.seated(0, 7) + "spot(0,0,0,0)!-2 spot(0,0,0,1)!-5");
    }

    private static void promisesOfTheClass() {
        of("int crowd(): The PUPIL with most NEIGHBOURS, of several the first.",
            LINE_OF_FOUR + "crowd()=1 bar(0,1,true) crowd()=2 pupil(0,7,0) crowd()=2 bar(2,3,true) crowd()=1");
        of("STUCK: nobody.", "crowd()!-5 pupil(0,3,0) crowd()=0");
        of("int inRow(int row): PUPILS (bits) in a row of DESKS.",
            "pupil(0,3,0) pupil(0,4,0) pupil(0,0,0) pupil(0,7,0) inRow(0)=5 inRow(1)=10 inRow(2)=0");
        of("BAD.", "inRow(3)!-2 inRow(-1)!-2 rows(4) inRow(3)=0 inRow(4)!-2");
        of("int edges(): How many pairs of NEIGHBOURS there are.",
            "edges()=0 " + SQUARE + "edges()=4 bar(0,1,true) edges()=3 pupil(0,11,0) edges()=3", ALL + "edges()=17");
        of("int lonely(): PUPILS (bits) without NEIGHBOURS.",
            "lonely()=0 pupil(0,0,0) lonely()=1 pupil(0,1,0) lonely()=0 pupil(0,11,0) lonely()=4 bar(1,0,true) lonely()=7");
    }

    private static void promisesOfSeconds() {
        of("int when(int from, int to): WHEN.",
            "pupil(0,0,0) pupil(4,1,8) pupil(0,2,0) master(0,4) master(1,2) master(2,200) surest(0,2,0,-1)=200000 "
            + "surest(0,2,1,-1)=160000 when(0,2)=0 waits(3) when(0,2)=0",
            "pupil(5,0,0) pupil(0,1,0) pupil(4,2,8) pupil(0,3,0) master(0,3) master(1,1) master(2,200) when(0,3)=1");
        of("BAD: also the same; STUCK: there is no WAY.",
            "pupil(0,0,0) pupil(0,2,0) when(0,0)!-2 when(0,2)!-2 when(-1,0)!-2 when(0,1)!-5");
        of("int answer(int from, int to, int second): ANSWER.",
            LINE + "answer(0,2,0)=1000000 answer(0,2,1)=700000 answer(0,2,9999)=700000 answer(0,1,3)=700000");
        of("BAD: also the same; STUCK: there is no WAY.",
            "pupil(0,0,0) pupil(0,2,0) answer(0,0,0)!-2 answer(0,2,0)!-2 answer(0,1,-1)!-2 answer(0,1,10000)!-2 answer(0,1,0)!-5");
        of("int halves(int from, int to, int second): HALVES.",
            SQUARE + "halves(0,3,0)=1000000 halves(0,3,3)=490000 halves(0,3,9999)=490000 halves(0,1,1)=1000000 halves(0,1,2)=700000");
        of("BAD: also the same; STUCK: there are no two such WAYS.",
            LINE + "pupil(0,11,0) halves(0,0,0)!-2 halves(0,4,0)!-2 halves(0,3,-1)!-2 halves(0,3,10000)!-2 halves(0,3,0)!-5 "
            + "halves(0,2,0)!-5 halves(0,1,0)!-5");
    }

    private static void promisesOfHands() {
        of("int must(int from, int to): MUST (bits).",
            LINE_OF_FOUR + "must(0,3)=6 must(0,2)=2 must(0,1)=0 pupil(0,4,0) pupil(0,5,0) pupil(0,6,0) must(0,3)=4 must(0,2)=0 "
            + "bar(2,6,true) must(0,3)=6 bar(0,1,true) must(0,3)=54");
        of("BAD: also the same; STUCK: there is no WAY.", "pupil(0,0,0) pupil(0,2,0) must(0,0)!-2 must(0,2)!-2 must(0,1)!-5");
        of("int cut(int from, int to): CUT; NONE.", SQUARE + "cut(0,3)=2 cut(0,1)=-1 bar(0,1,true) cut(0,1)=1 cut(0,3)=1");
        of("BAD: also the same.", LINE + "cut(0,0)!-2 cut(0,3)!-2 cut(-1,0)!-2");
        of("(NONE isn't refused; 0: there is no WAY of any length.)",
            LINE + "cut(0,1)=-1 status(12)=0 status(15)=0 bar(1,2,true) cut(0,2)=0",
            Script.seated(0, 3) + "pupil(0,8,0) pupil(0,9,0) pupil(0,10,0) cut(1,5)=0 cut(2,6)=0");
        of("int reach(int from): REACH (bits).", LINE + "pupil(4,3,0) pupil(0,7,0) reach(0)=14 reach(4)=8 reach(3)=23");
        of("BAD.", LINE + "reach(3)!-2 reach(-1)!-2");
    }

    private static void promisesOfToldWays() {
        of("int judge(int s, int n): A told WAY of the first n elements (0 to 9) of the ROW in SHELF s: WRONG; NONE.",
            SNAKE + "row(0,3,10) set(0,1,1) set(0,2,2) set(0,3,3) set(0,4,4) set(0,5,5) set(0,6,6) set(0,7,7) set(0,8,8) set(0,9,9) "
            + "judge(0,9)=-1 set(0,8,4294967304) judge(0,9)=8 judge(0,8)=-1 set(0,4,3) judge(0,9)=4");
        of("BAD SHELF, n; OTHER; NOTHING; BAD: fewer elements.",
            "pupil(0,0,0) show(0,0) row(1,0,2) judge(8,0)!-2 judge(0,10)!-2 judge(2,-1)!-2 judge(0,9)!-3 judge(2,9)!-4 judge(1,3)!-2 "
            + "judge(1,2)=1");
        of("int told(int s, int n, int second, int what): CHANCE of it (what 0), its SECONDS (1), READ by (2, bits), sent at a SECOND; "
            + "the last one is B.",
            // Made by pupil() alone, by the way that is not the surest: the keeper loses 100, but as the last none.
            "pupil(5,0,0) pupil(0,1,0) pupil(4,4,1) pupil(0,5,0) row(0,0,3) set(0,1,2) set(0,2,3) told(0,3,0,0)=900000 told(0,3,0,1)=3 "
            + "told(0,3,0,2)=4 told(0,3,3,0)=630000 told(0,2,0,0)=1000000 told(0,2,0,2)=0 told(0,2,9999,0)=700000 told(0,2,9999,1)=2",
            "pupil(0,1,0) pupil(0,0,0) pupil(0,2,0) row(0,0,2) surest(1,2,0,-1)=1000000 told(0,2,0,0)!-5 set(0,1,2) told(0,2,0,1)=1 "
            + "set(0,0,2) set(0,1,0) told(0,2,0,0)=1000000");
        of("BAD, also what, n below 2; OTHER; NOTHING; BAD; STUCK: it is WRONG.",
            LINE + "show(0,0) row(1,0,2) told(8,2,0,0)!-2 told(0,1,0,0)!-2 told(2,10,0,0)!-2 told(0,2,0,3)!-2 told(2,2,0,-1)!-2 "
            + "told(0,2,10000,0)!-2 told(0,9,0,0)!-3 told(2,9,0,0)!-4 told(1,3,0,0)!-2 told(1,2,0,0)!-5");
        of("int change(int from, int to, int second): CHANGE; NONE.",
            // Seen in the first hand alone (7) or in neither (0): the keeper of 3 loses 300, of 2 he would lose 200.
            "pupil(0,0,0) pupil(4,1,3) pupil(0,2,0) pupil(4,11,2) change(0,2,0)=103 master(2,1000) change(0,2,7)=-1 change(0,2,0)=103 "
            + "swap(1,3) change(0,2,0)=-1");
        of("BAD: also the same.", LINE + "change(0,0,0)!-2 change(0,3,0)!-2 change(0,2,-1)!-2 change(0,2,10000)!-2");
        of("(NONE isn't refused.)", LINE + "change(0,2,0)=-1 status(12)=0 status(15)=0");
    }

    private static void promisesOfCodes() {
        of("int code(int s, int t, int n): The ROW in SHELF s, its first n elements (0 to 40) being letters, becomes their code by all "
            + "elements of the ROW in SHELF t as a KEY: n.",
            "row(0,2,4) row(1,3,3) set(0,0,1) set(0,1,2) set(0,2,3) set(0,3,99) set(1,0,10) set(1,1,20) set(1,2,25) code(0,1,3)=3 "
            + "element(0,0)=11 element(0,1)=22 element(0,2)=2 code(0,1,0)=0 element(0,0)=11",
            "row(0,0,40) row(1,0,1) set(1,0,25) set(0,39,2) code(0,1,40)=40 element(0,0)=25 element(0,39)=1");
        of("BAD SHELVES, n; OTHER; NOTHING; BAD: fewer elements, one of them or of the KEY isn't 0 to 25; STUCK: an empty KEY.",
            "pupil(0,0,0) show(0,0) row(1,2,2) row(2,2,0) row(4,2,2) set(4,1,26) code(8,0,1)!-2 code(0,-1,1)!-2 code(0,3,41)!-2 "
            + "code(3,0,-1)!-2 code(0,3,9)!-3 code(3,0,9)!-3 code(1,3,9)!-4 code(3,1,9)!-4 code(1,2,3)!-2 code(4,2,2)!-2 "
            + "code(1,4,1)!-2 code(4,2,1)!-5 code(1,2,0)!-5 code(4,1,1)=1");
        of("int keyLength(int s, int t, int n): KEY LENGTH of the first n elements (0 to 40) of the ROWS in SHELVES s (letters), t "
            + "(code); 0 if n is 0.",
            "row(0,0,40) row(1,3,40) set(1,38,7) keyLength(0,1,40)=39 keyLength(0,1,39)=39 keyLength(0,1,38)=1 keyLength(0,1,0)=0 "
            + "set(1,18,7) keyLength(0,1,40)=20");
        of("BAD SHELVES, n; OTHER; NOTHING; BAD: fewer elements, no letters.",
            "pupil(0,0,0) show(0,0) row(1,2,2) row(2,2,1) row(4,2,2) set(4,1,26) keyLength(8,0,1)!-2 keyLength(0,8,1)!-2 "
            + "keyLength(0,3,41)!-2 keyLength(3,0,-1)!-2 keyLength(0,3,9)!-3 keyLength(3,0,9)!-3 keyLength(1,3,9)!-4 "
            + "keyLength(3,1,9)!-4 keyLength(1,2,2)!-2 keyLength(2,1,2)!-2 keyLength(4,1,2)!-2 keyLength(4,1,1)=1");
    }

    private static void promisesOfNotes() {
        of("int send(int from, int to): A note is sent in truth, at the SECOND there is: 1 it came, 0 it is lost.",
            Script.seated(0, 1) + "master(2,1000) waits(3) send(0,1)=1 status(6)=4 send(0,1)=0 status(6)=5 send(0,1)=0 send(1,0)=0 "
            + "send(1,0)=0 send(1,0)=1 status(7)=6 status(8)=2",
            // At 0 the long way is surest, at 3 the short one; and no lesson has been read.
            "pupil(0,0,0) pupil(0,4,0) pupil(0,5,0) pupil(0,6,0) pupil(0,2,0) pupil(1,1,0) bar(2,5,true) send(0,4)=1 note(0)=31 "
            + "status(6)=4 waits(7) send(0,4) note(1)=49");
        of("BAD: also the same; STUCK: there is no WAY.",
            "pupil(0,0,0) pupil(0,2,0) send(0,0)!-2 send(0,2)!-2 send(-1,0)!-2 send(0,1)!-5 status(7)=0");
        of("int note(int i): NOTES: how many are kept (i NONE), who was on the i-th WAY (bits; the oldest 0).",
            LINE_OF_FOUR + "note(-1)=0 send(0,1) send(3,1) send(0,3) note(-1)=3 note(0)=3 note(1)=14 note(2)=15");
        of("BAD; STUCK: not so many.", LINE + "note(-2)!-2 note(0)!-5 send(0,1) note(0)=3 note(1)!-5 note(16)!-5");
        of("int came(int i): Whether the i-th came: 1, 0.",
            LINE + "send(0,1) master(1,0) master(2,1000) send(0,1) master(2,0) send(0,1) came(0)=1 came(1)=0 came(2)=1");
        of("BAD; STUCK likewise.", LINE + "came(-2)!-2 came(0)!-5 send(0,1) came(0)=1 came(1)!-5 came(16)!-5");
        of("int suspect(): SUSPECT; NONE.",
            SNAKE + "suspect()=-1 master(1,0) master(2,1000) send(8,6) suspect()=7 send(0,2) suspect()=1 send(8,6) suspect()=7");
    }

    private static void promisesOfTruth() {
        of("int swap(int pupil, int other): Two PUPILS change DESKS in truth: 1; 0 if they are one.",
            LINE + "swap(0,1)=1 at(0)=1 at(1)=0 pupilOf(2,3)=1 swap(2,2)=0 at(2)=2");
        of("BAD.", LINE + "swap(0,3)!-2 swap(-1,0)!-2 swap(3,3)!-2");
        of("int waits(int n): n SECONDS (1 to 999) go by: the SECOND then.",
            Script.seated(0, 1) + "waits(1)=1 waits(999)=1000 status(6)=1000 send(0,1) waits(5)=1006");
        of("BAD.", "waits(0)!-2 waits(1000)!-2 waits(-1)!-2 status(6)=0");
        of("int seed(int v): SEED becomes v: the one ahead.",
            "seed(MIN)=1 seed(MAX)=-2147483648 status(10)=2147483647 seed(0)=2147483647");
        of("int image(): All is kept, but THE TAPE, SHELVES and REFUSALS: 1.",
            "pupil(2,0,3) pupil(0,1,0) bar(0,1,true) master(0,9) master(1,2) master(2,5) waits(7) seed(3) [rows] row(0,2,1) rows(9) "
            + "image()=1 pupil(0,2,0) move(0,11) bar(0,1,false) master(0,5) master(1,1) master(2,6) send(1,2) waits(1) seed(9) [;] "
            + "row(0,3,1) row(1,0,1) rows(9) back()=1 status(1)=2 pupilOf(0,1)=0 pupilOf(0,4)=2 status(2)=1 status(3)=9 status(4)=2 "
            + "status(5)=5 status(6)=7 status(7)=0 status(8)=0 status(10)=3 note(-1)=0 status(9)=5 holds(0)=3 holds(1)=0 status(12)=2",
            "rows(4) image()=1 rows(2) back()=1 status(0)=4 status(9)=0",
            LINE + "17*send(0,1) send(0,2) image()=1 seed(7) send(1,2) send(1,2) back()=1 status(7)=18 note(-1)=16 note(15)=7 "
            + "note(0)=3 send(1,2) note(15)=6 note(14)=7 status(7)=19");
        of("int back(): All is again as it was kept (SHELVES with PUPILS hold those of the same numbers, or NOTHING): 1.",
            "pupil(0,0,0) image() pupil(0,1,0) show(0,0) show(1,1) move(0,5) back()=1 holds(0)=10 says(0,0)=0 holds(1)=-1 status(11)=1 "
            + "pupil(0,7,0)=1 holds(1)=-1 back()=1 status(1)=1");
        of("STUCK: nothing was.", "back()!-5 image()=1 back()=1 back()=1");
        of("int status(int what): Rows (0), PUPILS (1), pairs that are BARRED (2), TERM (3), BACK (4), EYE (5), the SECOND (6), NOTES "
            + "sent in all (7), how many came (8), THE TAPE's size (9), SEED (10), SHELVES that hold something (11); 12 to 16: "
            + "REFUSALS -2 to -6.",
            "rows(4) " + Script.seated(0, 3) + "bar(0,1,true) bar(2,3,true) bar(0,3,true) master(0,11) master(1,10) master(2,9) "
            + "waits(6) send(1,2) seed(-4) [ab] row(5,0,0) show(6,0) status(0)=4 status(1)=4 status(2)=3 status(3)=11 status(4)=10 "
            + "status(5)=9 status(6)=7 status(7)=1 status(8)=1 status(9)=2 status(10)=-4 status(11)=2",
            "rows(4) " + ALL + "show(0,0) rows(1) set(0,0,0) set(0,0,0) set(1,0,0) set(1,0,0) set(1,0,0) 4*rows(2) 5*pupil(0,12,0) "
            + "status(12)=1 status(13)=2 status(14)=3 status(15)=4 status(16)=5");
        of("NONE another what.", "status(17)=-1 status(-1)=-1 status(MAX)=-1 status(MIN)=-1");
    }

    /** What it is: An object is used for at most 512 calls after it has been made. */
    private static void lastCall() {
        UnderTheDesks x = new UnderTheDesks();
        for (int k = 1; k < 512; k++) {
            x.waits(999);
        }
        DUE.is("the 512th call", x.waits(999), 512 * 999);
    }

    /** What is quoted here must be all that the document says from its terms to its last promise, in its order. */
    private static void isWhole(Path file) throws IOException {
        if (!Files.exists(file)) {
            System.out.println("SentencesTest: " + file + " isn't here, so nothing is held against it");
            return;
        }
        String document = Files.readString(file, StandardCharsets.UTF_8);
        StringBuilder said = new StringBuilder();
        for (String line : document.substring(document.indexOf("## Terms"), document.indexOf("## Not promised")).split("\n")) {
            if (!line.startsWith("##") && !line.startsWith("```")) {
                said.append(line.replace("====", " ").replace("`", "")).append(' ');
            }
        }
        String left = said.toString().replaceAll("\\s+", " ").trim();
        for (String sentence : QUOTED) {
            boolean isNext = left.startsWith(sentence);
            DUE.is("the document goes on: " + left.substring(0, Math.min(60, left.length())) + " .. " + sentence, isNext ? 1 : 0, 1);
            if (!isNext) {
                return;
            }
            left = left.substring(sentence.length()).trim();
        }
        DUE.is("what the document says behind the last: " + left, left.length(), 0);
    }
}
