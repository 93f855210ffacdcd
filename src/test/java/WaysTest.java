/** Promises 19 to 27 and 32 to 40: ways and what comes of them. */
public final class WaysTest {
    private static final Due DUE = new Due("WaysTest");
    private static final String LINE = "pupil 0 0 0;pupil 0 1 5;pupil 2 2 2;pupil 0 3 0";
    private static final String RING = "pupil 0 0 0;pupil 1 1 1;pupil 5 4 3;pupil 0 5 0";
    private static final String SNAKE = "rows 4;pupil 0 0 0;pupil 0 1 0;pupil 0 2 0;pupil 0 3 0;pupil 0 7 0;pupil 0 11 0;"
        + "pupil 0 10 0;pupil 0 9 0;pupil 0 8 0;pupil 0 12 0";

    public static void main(String[] args) {
        loss();
        line();
        ring();
        nineAtMost();
        hands();
        allRooms();
        surestOfSeveral();
        cuts();
        unreadAndReaders();
        unseen();
        together();
        spot();
        when();
        answer();
        halves();
        mustAndCut();
        reach();
        judge();
        judgeRefused();
        told();
        toldRefused();
        change();
        refused();
        apart();
        DUE.end();
    }

    private static void loss() {
        UnderTheDesks x = Due.classOf("pupil 0 0 7;pupil 1 1 7;pupil 2 2 7;pupil 3 3 7;pupil 4 4 7;pupil 5 5 7;pupil 4 6 9");
        int[] plain = {70, 570, 70, 70, 700, 70, 900};
        int[] seen = {370, 870, 370, 370, 1000, 370, 1000};
        for (int p = 0; p < 7; p++) {
            DUE.is("19: loss(" + p + ", 3)", x.loss(p, 3), plain[p]);
            DUE.is("19: loss(" + p + ", 4)", x.loss(p, 4), seen[p]);
            DUE.is("19: loss(" + p + ", 9991)", x.loss(p, 9991), seen[p]);
            DUE.is("19: loss(" + p + ", 9992)", x.loss(p, 9992), plain[p]);
        }
        DUE.is("19: second 9999", x.loss(0, 9999), 370);
        DUE.is("19: second 10000", x.loss(0, 10000), -2);
        DUE.is("19: second -1", x.loss(0, -1), -2);
        DUE.is("19: no pupil", x.loss(7, 0), -2);
        DUE.refusals("19", x, 3, 0, 0, 0, 0);
    }

    private static void line() {
        UnderTheDesks x = Due.classOf(LINE);
        DUE.is("20: line", x.ways(0, 3), 1);
        DUE.is("21: line", x.fewest(0, 3), 3);
        DUE.is("22: behind his back", x.surest(0, 3, 0, -1), 931000);
        DUE.is("22: seen from the second hand on", x.surest(0, 3, 3, -1), 452200);
        DUE.is("22: seen in the first alone", x.surest(0, 3, 7, -1), 637000);
        for (int i = 0; i < 4; i++) {
            DUE.is("22: pupil " + i, x.surest(0, 3, 9999, i), i);
            DUE.is("22: pupil " + i + " back", x.surest(3, 0, 0, i), 3 - i);
        }
        DUE.is("22: not so many", x.surest(0, 3, 0, 4), -5);
        DUE.is("22: never so many", x.surest(0, 3, 0, 1000), -5);
        DUE.is("22: i -2", x.surest(0, 3, 0, -2), -2);
        DUE.is("23: line", x.unread(0, 3, 0, -1), -5);
        DUE.is("23: to the reader", x.unread(0, 2, 0, -1), 950000);
        DUE.is("23: from the reader", x.unread(2, 3, 0, 1), 3);
        DUE.is("25: line", x.readers(0, 3), 1);
        DUE.is("25: to the reader", x.readers(0, 2), 0);
        DUE.is("35: line", x.must(0, 3), 6);
        DUE.is("35: beside", x.must(0, 1), 0);
        DUE.is("36: line", x.cut(0, 3), 1);
        DUE.is("36: beside", x.cut(1, 2), -1);
        DUE.is("34: line", x.halves(0, 3, 0), -5);
        DUE.is("34: both of one hand", x.halves(0, 1, 0), -5);
        DUE.refusals("22, 23, 34", x, 1, 0, 0, 5, 0);
    }

    private static void ring() {
        UnderTheDesks x = Due.classOf(RING);
        DUE.is("20: ring", x.ways(0, 3), 2);
        DUE.is("20: ring, beside", x.ways(0, 1), 2);
        DUE.is("21: ring", x.fewest(0, 3), 2);
        DUE.is("22: ring", x.surest(0, 3, 0, -1), 970000);
        DUE.is("22: by the twin", x.surest(0, 3, 0, 1), 2);
        DUE.is("22: first seen", x.surest(0, 3, 7, -1), 670000);
        DUE.is("22: the second hand begins a second later", x.surest(0, 3, 3, -1), 679000);
        DUE.is("22: the twin ahead takes two", x.surest(2, 1, 2, -1), 700000);
        DUE.is("34: ring", x.halves(0, 3, 0), 475300);
        DUE.is("34: one of one hand", x.halves(0, 1, 0), 970000);
        DUE.is("35: ring", x.must(0, 3), 0);
        DUE.is("36: ring", x.cut(0, 3), 2);
        x.bar(0, 1, true);
        DUE.is("20: barred", x.ways(0, 3), 1);
        DUE.is("20: barred, round", x.ways(0, 1), 1);
        DUE.is("36: barred", x.cut(0, 1), 1);
    }

    private static void nineAtMost() {
        UnderTheDesks x = Due.classOf(SNAKE);
        DUE.is("20: eight hands", x.ways(0, 8), 1);
        DUE.is("21: eight hands", x.fewest(0, 8), 8);
        DUE.is("22: eight hands", x.surest(0, 8, 0, 8), 8);
        DUE.is("22: not ten", x.surest(0, 8, 0, 9), -5);
        DUE.is("20: nine hands", x.ways(0, 9), 0);
        DUE.is("21: nine hands", x.fewest(0, 9), -1);
        DUE.is("22: nine hands", x.surest(0, 9, 0, -1), -5);
        DUE.is("25: nine hands", x.readers(0, 9), -5);
        DUE.is("32: nine hands", x.when(0, 9), -5);
        DUE.is("33: nine hands", x.answer(0, 9, 0), -5);
        DUE.is("35: nine hands", x.must(0, 9), -5);
        DUE.is("36: of any length", x.cut(0, 9), 1);
        DUE.is("37: of any length", x.reach(0), 0x3FE);
        DUE.is("43: nine hands", x.send(0, 9), -5);
        DUE.refusals("20 to 43", x, 0, 0, 0, 7, 0);
    }

    private static void hands() {
        UnderTheDesks x = new UnderTheDesks();
        for (int desk = 0; desk < 12; desk++) {
            x.pupil(0, desk, 0);
        }
        DUE.is("20: from corner to corner", x.ways(0, 11), countedWays(0, 11, 1, 9));
        DUE.is("20: beside", x.ways(5, 6), countedWays(5, 6, 1 << 5, 9));
        DUE.is("20: in the middle", x.ways(1, 10), countedWays(1, 10, 2, 9));
        DUE.is("21: from corner to corner", x.fewest(0, 11), 5);
        DUE.is("22: the first by rows of numbers", x.surest(0, 11, 0, 3), 3);
        DUE.is("36: from corner to corner", x.cut(0, 11), 2);
        DUE.is("36: in the middle", x.cut(5, 11), 2);
        DUE.is("36: from the rim", x.cut(1, 9), 3);
        DUE.is("30: edges", x.edges(), 17);
    }

    private static int countedWays(int from, int to, int used, int left) {
        if (from == to) {
            return 1;
        }
        int found = 0;
        for (int desk = 0; desk < 12 && left > 1; desk++) {
            int apart = Math.abs(desk / 4 - from / 4) + Math.abs(desk % 4 - from % 4);
            if (apart == 1 && (used >> desk & 1) == 0) {
                found += countedWays(desk, to, used | 1 << desk, left - 1);
            }
        }
        return found;
    }

    /** Each choice of twelve of sixteen desks, and each two pupils there: no room has more ways than the class has place for. */
    private static void allRooms() {
        int most = 0;
        for (int taken = 0; taken < 1 << 16; taken++) {
            if (Integer.bitCount(taken) == 12) {
                most = Math.max(most, waysInRoom(taken));
            }
        }
        DUE.is("20: the most ways in any room", most, 29);
    }

    private static int waysInRoom(int taken) {
        UnderTheDesks x = new UnderTheDesks();
        x.rows(4);
        int[] desks = new int[12];
        for (int desk = 0; desk < 16; desk++) {
            if ((taken >> desk & 1) != 0) {
                desks[x.pupil(0, desk, 0)] = desk;
            }
        }
        int most = 0;
        for (int p = 0; p < 12; p++) {
            for (int q = p + 1; q < 12; q++) {
                int due = waysInRoom(desks[p], desks[q], taken & ~(1 << desks[p]), 9);
                int got = x.ways(p, q);
                if (got != due) {
                    DUE.is("20: from " + desks[p] + " to " + desks[q] + " in " + Integer.toBinaryString(taken), got, due);
                }
                most = Math.max(most, got);
            }
        }
        return most;
    }

    private static int waysInRoom(int from, int to, int free, int left) {
        if (from == to) {
            return 1;
        }
        if (left == 1) {
            return 0;
        }
        int found = 0;
        for (int step : new int[] {-4, -1, 1, 4}) {
            int desk = from + step;
            boolean isBeside = desk >= 0 && desk < 16 && (Math.abs(step) == 4 || desk / 4 == from / 4);
            if (isBeside && (free >> desk & 1) != 0) {
                found += waysInRoom(desk, to, free & ~(1 << desk), left - 1);
            }
        }
        return found;
    }

    private static void surestOfSeveral() {
        // Four at a square, all with a 0: the first of two like ways, the shorter of two ways of one chance.
        UnderTheDesks x = Due.classOf("pupil 0 0 0;pupil 0 5 0;pupil 0 4 0;pupil 0 1 0");
        DUE.is("22: the first by rows of numbers", x.surest(0, 1, 0, 1), 2);
        DUE.is("22: the fewest hands", x.surest(0, 2, 0, 1), 2);
        x = Due.classOf("pupil 0 0 0;pupil 0 4 0;pupil 0 5 0;pupil 0 6 0;pupil 0 2 0;pupil 1 1 0");
        DUE.is("22: round the good one", x.surest(0, 4, 0, 1), 1);
        DUE.is("22: four hands", x.surest(0, 4, 0, 4), 4);
        DUE.is("22: its chance", x.surest(0, 4, 0, -1), 1000000);
        DUE.is("21: by the good one", x.fewest(0, 4), 2);
        // Seen in the third hand and the fourth, the long way has 490000, the short one 500000.
        x.master(1, 2);
        DUE.is("22: by the good one", x.surest(0, 4, 0, -1), 500000);
        DUE.is("22: he is between", x.surest(0, 4, 0, 1), 5);
        // With EYE 1000 no way has any chance: the fewest hands.
        x.master(1, 0);
        x.master(2, 1000);
        DUE.is("22: no chance", x.surest(0, 4, 0, -1), 0);
        DUE.is("22: no chance, by the good one", x.surest(0, 4, 0, 1), 5);
        DUE.is("32: no chance", x.when(0, 4), 0);
    }

    private static void cuts() {
        // 1,000,000 by 0.93, 0.93, 0.93, 0.93: 930000, 864900, 804357, 748052 (cut from 748052.01).
        UnderTheDesks x = Due.classOf("rows 4;pupil 0 0 0;pupil 0 4 7;pupil 0 8 7;pupil 0 12 7;pupil 0 13 7;pupil 0 14 0");
        x.master(1, 8);
        DUE.is("22: cut each time", x.surest(0, 5, 0, -1), 748052);
        x = Due.classOf("rows 4;pupil 0 0 0;pupil 4 4 9;pupil 4 8 9;pupil 4 12 9;pupil 4 13 9;pupil 4 14 9;pupil 4 15 9;"
            + "pupil 4 11 9;pupil 0 7 0;master 8 8 0");
        DUE.is("22: cut to nothing", x.surest(0, 8, 0, -1), 0);
        DUE.is("22: a chance of one", x.surest(0, 7, 0, -1), 1);
        // 1,000,000 by 0.933 thrice: 933000, 870489, 812166.237 cut, by 0.933 once more 757750.878 cut.
        x = Due.classOf("rows 4;pupil 0 0 0;pupil 0 4 0;pupil 0 8 0;pupil 0 12 0;pupil 0 13 0;master 1 0 67");
        DUE.is("22: cut in between", x.surest(0, 4, 0, -1), 757750);
    }

    private static void unreadAndReaders() {
        // By readers straight, by a good one round.
        UnderTheDesks x = Due.classOf("pupil 0 0 0;pupil 2 1 0;pupil 3 2 0;pupil 4 3 1;pupil 1 4 0;pupil 0 5 0;pupil 0 6 0;"
            + "pupil 0 7 0");
        DUE.is("22: read by two", x.surest(0, 3, 0, -1), 1000000);
        DUE.is("23: round, seen in the last hand", x.unread(0, 3, 0, -1), 350000);
        DUE.is("23: its first between", x.unread(0, 3, 0, 1), 4);
        DUE.is("23: its last but one", x.unread(0, 3, 0, 4), 7);
        DUE.is("23: not so many", x.unread(0, 3, 0, 6), -5);
        DUE.is("23: i -2", x.unread(0, 3, 0, -2), -2);
        DUE.is("25: round", x.readers(0, 3), 0);
        x.bar(0, 4, true);
        DUE.is("25: by one then", x.readers(0, 3), 1);
        DUE.is("23: none then", x.unread(0, 3, 0, -1), -5);
        x.bar(1, 5, true);
        DUE.is("25: by two then", x.readers(0, 3), 2);
        DUE.is("25: by all three", x.readers(0, 7), 2);
        x.bar(2, 6, true);
        DUE.is("25: adders and keepers read", x.readers(0, 7), 3);
        DUE.refusals("23, 25", x, 1, 0, 0, 2, 0);
        x = Due.classOf("pupil 2 1 0;pupil 0 0 0;pupil 0 2 0");
        DUE.is("25: pupil 0 reads", x.readers(1, 2), 1);
        DUE.is("23: pupil 0 reads", x.unread(1, 2, 0, 0), -5);
        DUE.is("37: pupil 0 reads", x.reach(1), 1);
    }

    private static void unseen() {
        UnderTheDesks x = Due.classOf(LINE);
        DUE.is("24: from second 1", x.unseen(0, 3, 1, -1), 931000);
        DUE.is("24: its pupil 2", x.unseen(0, 3, 1, 2), 2);
        DUE.is("24: not so many", x.unseen(0, 3, 1, 4), -5);
        DUE.is("24: from second 2", x.unseen(0, 3, 2, -1), -5);
        DUE.is("24: from second 7", x.unseen(0, 3, 7, -1), -5);
        DUE.is("24: from second 9993", x.unseen(0, 3, 9993, -1), 931000);
        DUE.is("24: i -2", x.unseen(0, 3, 0, -2), -2);
        // By the twin it would be seen, by the good one not.
        x = Due.classOf(RING);
        DUE.is("24: beside the twin", x.unseen(0, 3, 2, -1), 970000);
        x = Due.classOf("pupil 5 0 0;pupil 0 1 0");
        DUE.is("24: a twin's hand begins unseen", x.unseen(0, 1, 3, -1), 1000000);
        // Four hands, the third given by the twin: the last begins at second 4. By the good one it takes two.
        x = Due.classOf("pupil 0 0 0;pupil 0 4 0;pupil 5 5 0;pupil 0 6 0;pupil 0 2 0;pupil 1 1 9");
        DUE.is("24: seen in the last", x.surest(0, 4, 0, -1), 700000);
        DUE.is("24: unseen", x.unseen(0, 4, 0, -1), 410000);
        DUE.is("24: by the good one", x.unseen(0, 4, 0, 1), 5);
        x.master(1, 0);
        DUE.is("24: he never turns", x.unseen(0, 4, 0, -1), -5);
        x.master(0, 3);
        x.master(1, 3);
        DUE.is("24: he never looks", x.unseen(0, 4, 0, -1), 1000000);
    }

    private static void together() {
        UnderTheDesks x = Due.classOf(RING);
        DUE.is("26: both beside", x.together(0, 1, 2, 3, 0), 1000000);
        DUE.is("26: both seen", x.together(0, 1, 2, 3, 4), 490000);
        DUE.is("26: crossing", x.together(0, 3, 1, 2, 0), -5);
        DUE.is("26: one in both", x.together(0, 1, 1, 3, 0), -5);
        DUE.is("26: one sends both", x.together(0, 1, 0, 2, 0), -5);
        DUE.is("26: there and back", x.together(0, 1, 1, 0, 0), -5);
        DUE.is("26: the same", x.together(0, 0, 1, 2, 0), -2);
        DUE.is("26: the same last", x.together(0, 1, 2, 2, 0), -2);
        DUE.is("26: no pupil", x.together(0, 4, 2, 3, 0), -2);
        DUE.is("26: no pupil there", x.together(0, 1, 2, -1, 0), -2);
        DUE.is("26: second 10000", x.together(0, 1, 2, 3, 10000), -2);
        DUE.is("26: second -1", x.together(0, 1, 2, 3, -1), -2);
        DUE.refusals("26", x, 6, 0, 0, 4, 0);
        x = Due.classOf("pupil 0 0 0;pupil 0 1 0;pupil 0 10 0;pupil 0 11 0");
        DUE.is("26: one way each", x.together(0, 1, 2, 3, 0), 1000000);
        // Desks, row by row: 6 2, then 0 4 1, then 5 3 7.
        x = Due.classOf("pupil 0 4 0;pupil 0 6 0;pupil 0 1 0;pupil 0 9 0;pupil 0 5 3;pupil 1 8 0;pupil 0 0 1;pupil 0 10 2");
        DUE.is("26: each alone", x.surest(0, 1, 0, -1) + x.surest(2, 3, 0, -1), 970000 + 970000);
        DUE.is("26: none at all apart", x.together(0, 1, 2, 3, 0), -5);
        DUE.is("26: from 5 to 3, 6 to 2", x.together(5, 3, 6, 2, 0), 1000000);
        DUE.is("26: 5 to 7, 6 to 4", x.together(5, 7, 6, 4, 0), 1000000);
        DUE.is("26: 0 to 7 and 2 to 1", x.together(0, 7, 2, 1, 0), 485000);
        DUE.is("26: 0 to 3 and 6 to 4", x.together(0, 3, 6, 4, 0), 500000);
    }

    private static void spot() {
        UnderTheDesks x = Due.classOf("rows 2;pupil 0 0 0;pupil 0 2 0;pupil 1 4 0;pupil 0 6 0");
        DUE.is("27: between", x.spot(0, 3, 0, 1), 1);
        DUE.is("27: a keeper of nine", x.spot(4, 9, 0, 1), 1);
        x.move(1, 7);
        DUE.is("27: below, by the good one", x.spot(0, 0, 0, 1), 5);
        DUE.is("27: nobody was seated", x.status(1), 4);
        UnderTheDesks y = Due.classOf("rows 2;pupil 0 0 0;pupil 0 1 0");
        DUE.is("27: the first of several", y.spot(0, 0, 0, 1), 2);
        y.move(1, 7);
        DUE.is("27: no way: the first", y.spot(0, 0, 0, 1), 1);
        DUE.is("27: kind 6", y.spot(6, 0, 0, 1), -2);
        DUE.is("27: kind -1", y.spot(-1, 0, 0, 1), -2);
        DUE.is("27: a 10", y.spot(0, 10, 0, 1), -2);
        DUE.is("27: a -1", y.spot(0, -1, 0, 1), -2);
        DUE.is("27: the same", y.spot(0, 0, 1, 1), -2);
        DUE.is("27: no pupil", y.spot(0, 0, 0, 2), -2);
        DUE.refusals("27", y, 6, 0, 0, 0, 0);
        for (int desk = 1; desk < 7; desk++) {
            y.pupil(0, desk, 0);
        }
        DUE.is("27: no desk is free", y.spot(0, 0, 0, 1), -5);
        UnderTheDesks z = new UnderTheDesks();
        for (int desk = 0; desk < 12; desk++) {
            z.pupil(0, desk, 0);
        }
        DUE.is("27: full, and no desk is free", z.spot(0, 0, 0, 1), -6);
        DUE.is("27: full, and the same", z.spot(0, 0, 1, 1), -2);
        DUE.refusals("27", z, 1, 0, 0, 0, 1);
        UnderTheDesks v = Due.classOf("pupil 0 1 0;pupil 0 4 0;pupil 1 5 0");
        DUE.is("27: the first desk", v.spot(0, 0, 0, 1), 0);
        // Desk 2 brings a short way by a good one, desk 6 a long one, whose last hand would be seen from second 1.
        v = Due.classOf("pupil 0 0 0;pupil 0 3 0;pupil 1 1 0;pupil 0 4 0;pupil 0 5 0;pupil 0 7 0;master 8 5 600");
        DUE.is("27: sent at second 0", v.spot(0, 0, 0, 1), 6);
        v.master(1, 4);
        DUE.is("27: the long one seen at second 0", v.spot(0, 0, 0, 1), 2);
        // A way of no chance is more than none: desk 5 alone brings one.
        UnderTheDesks w = Due.classOf("pupil 0 4 0;pupil 0 6 0;pupil 0 0 0;master 1 0 1000");
        DUE.is("27: no chance is more than no way", w.spot(0, 0, 0, 1), 5);
    }

    private static void when() {
        UnderTheDesks x = Due.classOf(LINE);
        DUE.is("32: at once", x.when(0, 3), 0);
        // The twin's hand takes two: the last begins at s and 2.
        x = Due.classOf("pupil 5 0 0;pupil 0 1 9;pupil 0 2 0;master 3 1 500");
        DUE.is("32: sent at 0", x.surest(0, 2, 0, -1), 455000);
        DUE.is("32: sent at 1", x.surest(0, 2, 1, -1), 410000);
        DUE.is("32: sent at 2", x.surest(0, 2, 2, -1), 205000);
        DUE.is("32: seen in the last", x.when(0, 2), 0);
        x = Due.classOf("pupil 5 0 0;pupil 5 1 0;pupil 5 2 0;pupil 0 3 0;master 5 1 500");
        DUE.is("32: three twins", x.surest(0, 3, 0, -1), 250000);
        // One of three hands is unseen, the first, the last or the one to the keeper.
        x = Due.classOf("pupil 0 0 0;pupil 0 1 0;pupil 4 2 4;pupil 0 3 0;master 3 1 500");
        DUE.is("32: the first unseen", x.surest(0, 3, 0, -1), 50000);
        DUE.is("32: the last unseen", x.surest(0, 3, 1, -1), 50000);
        DUE.is("32: the keeper unseen", x.surest(0, 3, 2, -1), 150000);
        DUE.is("32: with the keeper unseen", x.when(0, 3), 2);
        DUE.is("32: one hand", x.when(0, 1), 0);
    }

    private static void answer() {
        UnderTheDesks x = Due.classOf(LINE);
        DUE.is("33: there and back", x.answer(0, 3, 0), 415132);
        // A twin takes two: there 0 and 2, back from 3, seen in the second hand.
        x = Due.classOf("pupil 0 0 0;pupil 5 1 0;pupil 0 2 0;master 4 4 500");
        DUE.is("33: he never looks", x.answer(0, 2, 0), 1000000);
        x.master(1, 3);
        DUE.is("33: back from 3", x.answer(0, 2, 0), 500000);
        DUE.is("33: back from 4", x.answer(0, 2, 1), 1000000);
        DUE.is("33: second 9999", x.answer(0, 1, 9999), 500000);
        DUE.is("33: second 10000", x.answer(0, 1, 10000), -2);
        DUE.is("33: second -1", x.answer(0, 1, -1), -2);
        DUE.refusals("33", x, 2, 0, 0, 0, 0);
        // The keeper is sure to lose none that he gets as the last.
        x = Due.classOf("pupil 0 0 9;pupil 4 1 9");
        DUE.is("33: the ends lose nothing", x.answer(0, 1, 0), 1000000);
    }

    private static void halves() {
        // From 0 to 1 by 2 (980000), by 3, 4 and 5 (900900), by 6, 7 and 8 (500000).
        UnderTheDesks x = Due.classOf("rows 3;pupil 0 4 0;pupil 0 6 0;pupil 0 5 2;pupil 0 0 0;pupil 0 1 9;pupil 0 2 1;pupil 0 8 0;"
            + "pupil 1 9 0;pupil 0 10 0");
        x.master(1, 8);
        DUE.is("34: the two best", x.halves(0, 1, 0), 980000L * 900900 / 1000000);
        x.bar(3, 4, true);
        DUE.is("34: nobody in common", x.halves(0, 1, 0), 980000L * 500000 / 1000000);
        x.bar(2, 1, true);
        DUE.is("34: by 2 and 4", x.halves(0, 1, 0), 882882L * 500000 / 1000000);
        x.bar(6, 7, true);
        DUE.is("34: all by 2", x.halves(0, 1, 0), -5);
        x.master(1, 4);
        x.bar(2, 1, false);
        x.bar(3, 4, false);
        DUE.is("34: both sent at the same second", x.halves(0, 1, 3), 686000L * 294630 / 1000000);
    }

    private static void mustAndCut() {
        // 0 - 1 - (2 or 3) - 4 - 5, and from 0 to 6, who is apart.
        UnderTheDesks x = Due.classOf("rows 4;pupil 0 0 0;pupil 0 1 0;pupil 0 2 0;pupil 0 5 0;pupil 0 6 0;pupil 0 10 0;pupil 0 12 0");
        DUE.is("35: in each", x.must(0, 5), 2 + 16);
        DUE.is("35: in none", x.must(1, 4), 0);
        DUE.is("35: one end beside", x.must(0, 4), 2);
        DUE.is("35: no way", x.must(0, 6), -5);
        DUE.is("36: one", x.cut(0, 5), 1);
        DUE.is("36: two", x.cut(1, 4), 2);
        DUE.is("36: beside", x.cut(4, 5), -1);
        DUE.is("36: no way", x.cut(0, 6), 0);
        x.bar(4, 5, true);
        DUE.is("36: barred ones are no neighbours", x.cut(4, 5), 0);
        DUE.refusals("35, 36", x, 0, 0, 0, 1, 0);
    }

    private static void reach() {
        UnderTheDesks x = Due.classOf(LINE);
        DUE.is("37: to the reader", x.reach(0), 6);
        DUE.is("37: from behind him", x.reach(3), 4);
        DUE.is("37: from him", x.reach(2), 11);
        x.bar(0, 1, true);
        DUE.is("37: nobody", x.reach(0), 0);
        DUE.is("37: no pupil", x.reach(4), -2);
        DUE.is("37: -1", x.reach(-1), -2);
        DUE.refusals("37", x, 2, 0, 0, 0, 0);
        x = Due.classOf("pupil 0 0 0;pupil 3 1 0;pupil 0 2 0;pupil 4 4 0;pupil 0 8 0;pupil 5 5 0");
        DUE.is("37: adders and keepers read", x.reach(0), 2 + 8);
        DUE.is("37: twins don't", x.reach(4), 8);
        DUE.is("37: by the twin", x.reach(1), 1 + 4 + 32 + 8);
    }

    private static void judge() {
        UnderTheDesks x = Due.classOf(RING);
        Due.fill(x, 0, 3, 0, 1, 3, 2, 0);
        DUE.is("38: judge(0, 0)", x.judge(0, 0), -1);
        DUE.is("38: judge(0, 1)", x.judge(0, 1), -1);
        DUE.is("38: judge(0, 4)", x.judge(0, 4), -1);
        DUE.is("38: is there already", x.judge(0, 5), 4);
        x.set(0, 0, 4);
        DUE.is("38: the first is none", x.judge(0, 1), 0);
        x.set(0, 0, 1L << 32);
        DUE.is("38: a long that is none", x.judge(0, 1), 0);
        x.set(0, 0, 0);
        x.set(0, 1, 3);
        DUE.is("38: no neighbour", x.judge(0, 4), 1);
        x.set(0, 1, -1);
        DUE.is("38: -1", x.judge(0, 4), 1);
        x.set(0, 1, 0);
        DUE.is("38: twice at once", x.judge(0, 4), 1);
        x.set(0, 1, 1);
        x.bar(3, 2, true);
        DUE.is("38: barred", x.judge(0, 4), 3);
        Due.fill(x, 1, 4, 0, 7);
        DUE.is("38: booleans", x.judge(1, 2), -1);
        DUE.refusals("38", x, 0, 0, 0, 0, 0);
    }

    private static void judgeRefused() {
        UnderTheDesks x = Due.classOf(RING);
        x.show(1, 0);
        x.row(2, 0, 9);
        DUE.is("38: judge(8, 0)", x.judge(8, 0), -2);
        DUE.is("38: judge(-1, 0)", x.judge(-1, 0), -2);
        DUE.is("38: n 10", x.judge(1, 10), -2);
        DUE.is("38: n -1", x.judge(0, -1), -2);
        DUE.is("38: a pupil", x.judge(1, 9), -3);
        DUE.is("38: nothing", x.judge(0, 9), -4);
        DUE.is("38: nine", x.judge(2, 9), 1);
        x.row(2, 0, 8);
        DUE.is("38: fewer elements", x.judge(2, 9), -2);
        DUE.refusals("38", x, 5, 1, 1, 0, 0);
    }

    private static void told() {
        UnderTheDesks x = Due.classOf("pupil 2 0 9;pupil 3 1 1;pupil 5 5 3;pupil 4 4 4;pupil 0 8 1;pupil 2 9 0");
        Due.fill(x, 0, 0, 0, 1, 2, 3, 4, 5);
        // Hands begin at 0, 1, 2, 4, 5: lost 10, 30, 400, 10 and 300, 300.
        DUE.is("39: chance", x.told(0, 6, 0, 0), 278294);
        DUE.is("39: seconds", x.told(0, 6, 0, 1), 6);
        DUE.is("39: read by", x.told(0, 6, 0, 2), 2 + 8);
        DUE.is("39: chance of four", x.told(0, 4, 0, 0), 960300);
        DUE.is("39: seconds of four", x.told(0, 4, 0, 1), 4);
        DUE.is("39: the last one is B", x.told(0, 4, 0, 2), 2);
        DUE.is("39: chance of two, seen", x.told(0, 2, 9999, 0), 700000);
        DUE.is("39: it isn't the surest", x.surest(0, 3, 0, -1), 1000000);
        DUE.is("39: seconds of two", x.told(0, 2, 9999, 1), 1);
        DUE.is("39: read by of two", x.told(0, 2, 0, 2), 0);
        DUE.refusals("39", x, 0, 0, 0, 0, 0);
    }

    private static void toldRefused() {
        UnderTheDesks x = Due.classOf(RING);
        x.show(1, 0);
        Due.fill(x, 2, 0, 0, 1, 2, 3);
        DUE.is("39: told(8, ..)", x.told(8, 2, 0, 0), -2);
        DUE.is("39: told(-1, ..)", x.told(-1, 2, 0, 0), -2);
        DUE.is("39: n 1", x.told(1, 1, 0, 0), -2);
        DUE.is("39: n 10", x.told(0, 10, 0, 0), -2);
        DUE.is("39: second 10000", x.told(1, 2, 10000, 0), -2);
        DUE.is("39: second -1", x.told(1, 2, -1, 0), -2);
        DUE.is("39: what 3", x.told(0, 2, 0, 3), -2);
        DUE.is("39: what -1", x.told(0, 2, 0, -1), -2);
        DUE.is("39: a pupil", x.told(1, 9, 0, 0), -3);
        DUE.is("39: nothing", x.told(0, 9, 0, 0), -4);
        DUE.is("39: fewer elements", x.told(2, 5, 0, 0), -2);
        DUE.is("39: wrong", x.told(2, 3, 0, 0), -5);
        DUE.is("39: as far as it's right", x.told(2, 2, 0, 1), 1);
        DUE.refusals("39", x, 9, 1, 1, 1, 0);
    }

    private static void change() {
        UnderTheDesks x = Due.classOf("pupil 0 0 0;pupil 0 1 9;pupil 0 2 0;pupil 0 11 0;pupil 0 8 0");
        DUE.is("40: the first of two", x.change(0, 2, 0), 103);
        DUE.is("40: nothing is changed", x.pupilOf(1, 1), 1);
        DUE.is("40: the ends stay", x.change(1, 3, 0), -1);
        x.swap(1, 3);
        DUE.is("40: none is better", x.change(0, 2, 0), -1);
        DUE.is("40: the same", x.change(0, 0, 0), -2);
        DUE.is("40: no pupil", x.change(0, 5, 0), -2);
        DUE.is("40: second 10000", x.change(0, 2, 10000), -2);
        DUE.is("40: second -1", x.change(0, 2, -1), -2);
        DUE.refusals("40", x, 4, 0, 0, 0, 0);
        // No way before, a way after: 1 and 4 change desks.
        x = Due.classOf("pupil 0 0 0;pupil 0 1 0;pupil 0 2 0;pupil 0 3 0;pupil 0 11 2;bar 0 1");
        DUE.is("40: a way at last", x.change(0, 2, 0), 103);
        x.bar(0, 3, true);
        DUE.is("40: by the other", x.change(0, 2, 0), 104);
        x.bar(0, 4, true);
        DUE.is("40: none at all", x.change(0, 2, 0), -1);
        x = Due.classOf("pupil 0 0 0;pupil 5 1 1;pupil 0 2 0;pupil 0 3 0;pupil 0 11 2");
        DUE.is("40: one better", x.change(0, 2, 0), 103);
        x = Due.classOf("pupil 0 0 0;pupil 0 1 5;pupil 0 2 0;pupil 0 6 3;pupil 0 11 4");
        DUE.is("40: the best, not the first better", x.change(0, 2, 0), 103);
        x = Due.classOf("pupil 0 0 0;pupil 0 1 5;pupil 0 2 0;pupil 0 6 4;pupil 0 11 3");
        DUE.is("40: the best, though behind", x.change(0, 2, 0), 104);
        x = Due.classOf("pupil 0 1 9;pupil 0 11 0;pupil 0 0 0;pupil 0 2 0");
        DUE.is("40: the first and the second", x.change(2, 3, 0), 1);
        x = Due.classOf("pupil 0 1 9;pupil 0 0 0;pupil 0 2 0;pupil 0 11 0");
        DUE.is("40: the first and the last", x.change(1, 2, 0), 3);
        DUE.is("40: seen then", x.change(1, 2, 9999), 3);
    }

    /** What every call about a pair of pupils refuses alike. */
    private static void refused() {
        UnderTheDesks x = Due.classOf(RING);
        int[][] pairs = {{0, 0}, {3, 3}, {0, 4}, {4, 0}, {-1, 0}, {0, -1}, {Integer.MIN_VALUE, Integer.MAX_VALUE}};
        int asked = 0;
        for (int[] p : pairs) {
            String which = "(" + p[0] + ", " + p[1] + ")";
            long[] got = {x.ways(p[0], p[1]), x.fewest(p[0], p[1]), x.surest(p[0], p[1], 0, 0), x.unread(p[0], p[1], 0, 0),
                x.unseen(p[0], p[1], 0, 0), x.readers(p[0], p[1]), x.when(p[0], p[1]), x.answer(p[0], p[1], 0),
                x.halves(p[0], p[1], 0), x.must(p[0], p[1]), x.cut(p[0], p[1]), x.change(p[0], p[1], 0), x.send(p[0], p[1])};
            int[] promise = {20, 21, 22, 23, 24, 25, 32, 33, 34, 35, 36, 40, 43};
            for (int k = 0; k < got.length; k++) {
                DUE.is(promise[k] + ": " + which, got[k], -2);
                asked++;
            }
        }
        int[] seconds = {-1, 10000, Integer.MAX_VALUE};
        for (int second : seconds) {
            DUE.is("22: second " + second, x.surest(0, 1, second, 0), -2);
            DUE.is("23: second " + second, x.unread(0, 1, second, 0), -2);
            DUE.is("24: second " + second, x.unseen(0, 1, second, 0), -2);
            DUE.is("34: second " + second, x.halves(0, 1, second), -2);
            asked += 4;
        }
        DUE.refusals("20 to 43", x, asked, 0, 0, 0, 0);
    }

    private static void apart() {
        UnderTheDesks x = Due.classOf("pupil 0 0 0;pupil 0 2 0");
        DUE.is("20: no way", x.ways(0, 1), 0);
        DUE.is("21: no way", x.fewest(0, 1), -1);
        DUE.is("22: no way", x.surest(0, 1, 0, -1), -5);
        DUE.is("23: no way", x.unread(0, 1, 0, -1), -5);
        DUE.is("24: no way", x.unseen(0, 1, 0, -1), -5);
        DUE.is("25: no way", x.readers(0, 1), -5);
        DUE.is("26: no way", x.together(0, 1, 1, 0, 0), -5);
        DUE.is("32: no way", x.when(0, 1), -5);
        DUE.is("33: no way", x.answer(0, 1, 0), -5);
        DUE.is("34: no way", x.halves(0, 1, 0), -5);
        DUE.is("35: no way", x.must(0, 1), -5);
        DUE.is("36: no way", x.cut(0, 1), 0);
        DUE.is("37: no way", x.reach(0), 0);
        DUE.refusals("20 to 37", x, 0, 0, 0, 9, 0);
    }
}
