/** Promises 1 to 8, 41 and 42: a new object, shelves, codes. */
public final class ShelvesTest {
    private static final Due DUE = new Due("ShelvesTest");

    public static void main(String[] args) {
        aNewObject();
        row();
        set();
        lowestBits();
        copy();
        copyRefused();
        element();
        holdsAndShow();
        says();
        code();
        codeRefused();
        keyLength();
        keyLengthRefused();
        DUE.end();
    }

    private static void aNewObject() {
        UnderTheDesks x = new UnderTheDesks();
        int[] first = {3, 0, 0, 8, 4, 300, 0, 0, 0, 0, 1, 0, 0, 0, 0, 0, 0};
        for (int what = 0; what < first.length; what++) {
            DUE.is("1: status(" + what + ") of a new one", x.status(what), first[what]);
        }
        for (int s = 0; s < 8; s++) {
            DUE.is("1: holds(" + s + ") of a new one", x.holds(s), -1);
        }
        DUE.is("1: at(11) of a new one", x.at(11), -1);
        DUE.is("1: at(12) of a new one", x.at(12), -2);
        DUE.is("1: NONE", UnderTheDesks.NONE, -1);
    }

    private static void row() {
        UnderTheDesks x = new UnderTheDesks();
        DUE.is("2: row(0, 0, 0)", x.row(0, 0, 0), 1);
        DUE.is("2: row(7, 4, 40)", x.row(7, 4, 40), 1);
        DUE.is("2: holds(0)", x.holds(0), 0);
        DUE.is("2: holds(7)", x.holds(7), 4);
        DUE.is("2: row(-1, 0, 0)", x.row(-1, 0, 0), -2);
        DUE.is("2: row(8, 0, 0)", x.row(8, 0, 0), -2);
        DUE.is("2: row(0, -1, 0)", x.row(0, -1, 0), -2);
        DUE.is("2: row(0, 5, 0)", x.row(0, 5, 0), -2);
        DUE.is("2: row(0, 1, -1)", x.row(0, 1, -1), -2);
        DUE.is("2: row(0, 1, 41)", x.row(0, 1, 41), -2);
        DUE.is("2: holds(0) then", x.holds(0), 0);
        DUE.refusals("2", x, 6, 0, 0, 0, 0);
        Due.fill(x, 1, 2, 5, 6);
        x.row(1, 2, 2);
        DUE.is("2: a new row has 0", x.element(1, 0) + x.element(1, 1), 0);
    }

    private static void set() {
        UnderTheDesks x = Due.classOf("pupil 0 0 0");
        x.show(1, 0);
        x.row(2, 3, 2);
        DUE.is("3: set(8, 0, 1)", x.set(8, 0, 1), -2);
        DUE.is("3: set(-1, 0, 1)", x.set(-1, 0, 1), -2);
        DUE.is("3: set on a pupil", x.set(1, 99, 1), -3);
        DUE.is("3: set on nothing", x.set(0, 99, 1), -4);
        DUE.is("3: set(2, 2, 1)", x.set(2, 2, 1), -2);
        DUE.is("3: set(2, -1, 1)", x.set(2, -1, 1), -2);
        DUE.is("3: set(2, 1, 7)", x.set(2, 1, 7), 1);
        DUE.is("3: element(2, 1)", x.element(2, 1), 7);
        DUE.is("3: element(2, 0)", x.element(2, 0), 0);
        DUE.refusals("3", x, 4, 1, 1, 0, 0);
    }

    private static void lowestBits() {
        UnderTheDesks x = new UnderTheDesks();
        long[] put = {200, -129, 65535 + 40000L, 0x1_8000_0001L, Long.MIN_VALUE, 0, 256};
        for (int sort = 0; sort < 5; sort++) {
            Due.fill(x, sort, sort, put);
        }
        long[][] kept = {
            {-56, 127, 63, 1, 0, 0, 0},
            {200, -129, -25537, 1, 0, 0, 256},
            {200, -129, 105535, -2147483647, 0, 0, 256},
            {200, -129, 105535, 6442450945L, Long.MIN_VALUE, 0, 256},
            {1, 1, 1, 1, 1, 0, 1}};
        for (int sort = 0; sort < 5; sort++) {
            for (int i = 0; i < put.length; i++) {
                DUE.is("3: " + put[i] + " put in sort " + sort, x.element(sort, i), kept[sort][i]);
            }
        }
    }

    private static void copy() {
        UnderTheDesks x = new UnderTheDesks();
        Due.fill(x, 0, 1, 1, 2, 3, 4, 5);
        Due.fill(x, 1, 1, 9, 9, 9);
        DUE.is("4: copy(0, 1, 3, 0, 2)", x.copy(0, 1, 3, 0, 2), 2);
        DUE.is("4: its elements", 100 * x.element(1, 0) + 10 * x.element(1, 1) + x.element(1, 2), 459);
        DUE.is("4: forth in itself", x.copy(0, 0, 0, 1, 4), 4);
        DUE.is("4: as they were", digits(x, 0, 5), 11234);
        DUE.is("4: back in itself", x.copy(0, 0, 2, 0, 3), 3);
        DUE.is("4: as they were, back", digits(x, 0, 5), 23434);
        DUE.is("4: none of them", x.copy(0, 1, 5, 3, 0), 0);
    }

    private static long digits(UnderTheDesks x, int s, int n) {
        long all = 0;
        for (int i = 0; i < n; i++) {
            all = 10 * all + x.element(s, i);
        }
        return all;
    }

    private static void copyRefused() {
        UnderTheDesks x = Due.classOf("pupil 0 0 0");
        x.row(0, 1, 5);
        x.row(1, 1, 3);
        x.row(2, 2, 3);
        x.show(3, 0);
        DUE.is("4: copy(8, ..)", x.copy(8, 3, 0, 0, 1), -2);
        DUE.is("4: copy(.., -1, ..)", x.copy(3, -1, 0, 0, 1), -2);
        DUE.is("4: two sorts", x.copy(0, 2, 0, 0, 99), -3);
        DUE.is("4: from a pupil", x.copy(3, 7, 0, 0, 1), -3);
        DUE.is("4: to a pupil", x.copy(7, 3, 0, 0, 1), -3);
        DUE.is("4: from nothing", x.copy(7, 0, 0, 0, 99), -4);
        DUE.is("4: to nothing", x.copy(0, 7, 0, 0, 99), -4);
        DUE.is("4: too many of p", x.copy(1, 0, 1, 0, 3), -2);
        DUE.is("4: too many of q", x.copy(0, 1, 0, 1, 3), -2);
        DUE.is("4: i -1", x.copy(0, 1, -1, 0, 1), -2);
        DUE.is("4: j -1", x.copy(0, 1, 0, -1, 1), -2);
        DUE.is("4: n -1", x.copy(0, 1, 1, 1, -1), -2);
        DUE.is("4: i far out", x.copy(0, 1, Integer.MAX_VALUE, 0, 1), -2);
        DUE.is("4: n far out", x.copy(0, 1, 1, 0, Integer.MAX_VALUE), -2);
        DUE.is("4: n least", x.copy(0, 1, 1, 0, Integer.MIN_VALUE), -2);
        DUE.is("4: none behind all", x.copy(0, 1, 6, 0, 0), -2);
        DUE.refusals("4", x, 11, 3, 2, 0, 0);
    }

    private static void element() {
        UnderTheDesks x = Due.classOf("pupil 0 0 0");
        Due.fill(x, 0, 3, 5, 6);
        x.show(1, 0);
        DUE.is("5: element(0, 1)", x.element(0, 1), 6);
        DUE.is("5: element(0, 2)", x.element(0, 2), 0);
        DUE.is("5: element(0, -1)", x.element(0, -1), 0);
        DUE.is("5: of a pupil", x.element(1, 0), 0);
        DUE.is("5: of nothing", x.element(2, 0), 0);
        DUE.is("5: of no shelf", x.element(8, 0) + x.element(-1, 0), 0);
        x.row(0, 3, 1);
        x.row(0, 3, 2);
        DUE.is("5: of a newer row", x.element(0, 0) + x.element(0, 1), 0);
        DUE.refusals("5", x, 0, 0, 0, 0, 0);
    }

    private static void holdsAndShow() {
        UnderTheDesks x = Due.classOf("pupil 0 0 0;pupil 5 1 0");
        DUE.is("7: show(0, 1)", x.show(0, 1), 1);
        DUE.is("6: holds(0)", x.holds(0), 11);
        DUE.is("7: show(0, 2)", x.show(0, 2), -2);
        DUE.is("7: show(0, -2)", x.show(0, -2), -2);
        DUE.is("7: show(8, 0)", x.show(8, 0), -2);
        DUE.is("7: show(-1, -1)", x.show(-1, -1), -2);
        DUE.is("6: holds(0) still", x.holds(0), 11);
        DUE.is("11: status", x.status(11), 1);
        x.row(1, 3, 0);
        DUE.is("52: an empty row is something", x.status(11), 2);
        DUE.is("7: show(0, NONE)", x.show(0, -1), 1);
        DUE.is("6: holds(0) nothing", x.holds(0), -1);
        x.show(1, 0);
        DUE.is("6: a pupil for a row", x.holds(1), 10);
        DUE.is("6: no shelf", x.holds(8) + x.holds(-1), -2);
        for (int sort = 0; sort < 5; sort++) {
            x.row(2, sort, 1);
            DUE.is("6: a row by its sort", x.holds(2), sort);
        }
        DUE.refusals("6, 7", x, 4, 0, 0, 0, 0);
    }

    private static void says() {
        UnderTheDesks x = Due.classOf("pupil 0 5 7;pupil 1 1 2;pupil 2 4 3;pupil 3 6 4;pupil 4 9 6;pupil 5 0 8");
        // What each kind says of each pupil, taken for PUPIL, GOOD, READER, ADDER, KEEPER, TWIN.
        int[][] due = {
            {5, -3, -3, -3, -3, -3},
            {1, 520, -3, -3, -3, -3},
            {4, -3, 2, -3, -3, -3},
            {6, -3, 1, 4, -3, -3},
            {9, -3, 1, -3, 600, -3},
            {0, -3, -3, -3, -3, 2}};
        for (int p = 0; p < 6; p++) {
            x.show(p, p);
            for (int kind = 0; kind < 6; kind++) {
                DUE.is("8: pupil " + p + " taken for " + kind, x.says(p, kind), due[p][kind]);
            }
        }
        x.row(6, 0, 1);
        DUE.is("8: a row", x.says(6, 0), -3);
        DUE.is("8: nothing", x.says(7, 0), -4);
        DUE.is("8: says(8, 0)", x.says(8, 0), -2);
        DUE.is("8: says(-1, 0)", x.says(-1, 0), -2);
        DUE.is("8: says(7, 6)", x.says(7, 6), -2);
        DUE.is("8: says(0, -1)", x.says(0, -1), -2);
        DUE.refusals("8", x, 4, 24, 1, 0, 0);
    }

    private static void code() {
        UnderTheDesks x = new UnderTheDesks();
        Due.fill(x, 0, 2, 0, 1, 2, 3, 25, 7);
        Due.fill(x, 1, 3, 1, 25);
        DUE.is("41: code(0, 1, 5)", x.code(0, 1, 5), 5);
        long[] due = {1, 0, 3, 2, 0, 7};
        for (int i = 0; i < 6; i++) {
            DUE.is("41: letter " + i, x.element(0, i), due[i]);
        }
        DUE.is("41: the key stays", 100 * x.element(1, 0) + x.element(1, 1), 125);
        DUE.is("41: none of them", x.code(0, 1, 0), 0);
        Due.fill(x, 2, 0, 3, 14, 20);
        DUE.is("41: by itself", x.code(2, 2, 3), 3);
        DUE.is("41: doubled", 10000 * x.element(2, 0) + 100 * x.element(2, 1) + x.element(2, 2), 60214);
        Due.fill(x, 3, 4, 1, 0, 1);
        Due.fill(x, 4, 1, 25, 3);
        DUE.is("41: booleans", x.code(3, 4, 2), 2);
        DUE.is("41: whether it is not 0", 100 * x.element(3, 0) + 10 * x.element(3, 1) + x.element(3, 2), 11);
        DUE.refusals("41", x, 0, 0, 0, 0, 0);
    }

    private static void codeRefused() {
        UnderTheDesks x = Due.classOf("pupil 0 0 0");
        Due.fill(x, 0, 2, 5, 26, 25);
        Due.fill(x, 1, 2, 3, -1);
        Due.fill(x, 2, 2, 25);
        x.row(3, 2, 0);
        x.show(4, 0);
        x.row(7, 2, 40);
        DUE.is("41: code(8, ..)", x.code(8, 2, 1), -2);
        DUE.is("41: code(.., -1, ..)", x.code(4, -1, 1), -2);
        DUE.is("41: n 41", x.code(4, 2, 41), -2);
        DUE.is("41: n -1", x.code(4, 2, -1), -2);
        DUE.is("41: a pupil for a row", x.code(4, 5, 1), -3);
        DUE.is("41: a pupil for a key", x.code(5, 4, 1), -3);
        DUE.is("41: nothing for a row", x.code(5, 2, 1), -4);
        DUE.is("41: nothing for a key", x.code(0, 5, 3), -4);
        DUE.is("41: fewer elements", x.code(2, 2, 2), -2);
        DUE.is("41: no letter", x.code(0, 2, 2), -2);
        DUE.is("41: no number of a key", x.code(2, 1, 1), -2);
        Due.fill(x, 6, 2, 26, 1);
        DUE.is("41: the first no letter", x.code(6, 2, 2), -2);
        DUE.is("41: the first no number of a key", x.code(2, 6, 1), -2);
        DUE.is("41: no letter by an empty key", x.code(0, 3, 2), -2);
        DUE.is("41: an empty key", x.code(0, 3, 1), -5);
        DUE.is("41: an empty key for none", x.code(0, 3, 0), -5);
        DUE.is("41: nothing changed", x.element(0, 0), 5);
        DUE.is("41: one letter", x.code(0, 2, 1), 1);
        DUE.is("41: letter 0", x.element(0, 0), 4);
        DUE.is("41: forty", x.code(7, 2, 40), 40);
        DUE.is("41: letter 39", x.element(7, 39), 25);
        DUE.refusals("41", x, 10, 2, 2, 2, 0);
    }

    private static void keyLength() {
        UnderTheDesks x = new UnderTheDesks();
        Due.fill(x, 0, 0, 1, 2, 3, 4, 5, 6);
        Due.fill(x, 1, 3, 4, 2, 6, 4, 8, 7);
        // The steps are 3 0 3 0 3 1.
        int[] due = {0, 1, 2, 2, 2, 2, 6};
        for (int n = 0; n <= 6; n++) {
            DUE.is("42: keyLength of " + n, x.keyLength(0, 1, n), due[n]);
        }
        Due.fill(x, 2, 1, 24, 25, 0, 1);
        Due.fill(x, 3, 1, 1, 2, 3, 4);
        DUE.is("42: round the end of the letters", x.keyLength(2, 3, 4), 1);
        DUE.is("42: and back", x.keyLength(3, 2, 4), 1);
        DUE.is("42: a row and itself", x.keyLength(0, 0, 6), 1);
        x.row(4, 0, 40);
        x.row(5, 2, 40);
        x.set(5, 39, 1);
        DUE.is("42: of forty", x.keyLength(4, 5, 40), 40);
        x.set(5, 19, 1);
        DUE.is("42: of forty, twice", x.keyLength(4, 5, 40), 20);
        DUE.refusals("42", x, 0, 0, 0, 0, 0);
    }

    private static void keyLengthRefused() {
        UnderTheDesks x = Due.classOf("pupil 0 0 0");
        Due.fill(x, 0, 2, 5, 26);
        Due.fill(x, 1, 2, 5, 6, 7);
        Due.fill(x, 2, 2, 5);
        x.show(3, 0);
        DUE.is("42: keyLength(8, ..)", x.keyLength(8, 1, 1), -2);
        DUE.is("42: keyLength(.., 8, ..)", x.keyLength(3, 8, 1), -2);
        DUE.is("42: n 41", x.keyLength(3, 1, 41), -2);
        DUE.is("42: n -1", x.keyLength(3, 1, -1), -2);
        DUE.is("42: a pupil", x.keyLength(4, 3, 1), -3);
        DUE.is("42: another", x.keyLength(3, 4, 1), -3);
        DUE.is("42: nothing", x.keyLength(4, 1, 1), -4);
        DUE.is("42: nothing for the code", x.keyLength(1, 4, 0), -4);
        DUE.is("42: fewer letters", x.keyLength(2, 1, 2), -2);
        DUE.is("42: fewer of the code", x.keyLength(1, 2, 2), -2);
        DUE.is("42: no letters", x.keyLength(0, 1, 2), -2);
        DUE.is("42: no letters in the code", x.keyLength(1, 0, 2), -2);
        DUE.is("42: as far as there are", x.keyLength(0, 1, 1), 1);
        DUE.refusals("42", x, 8, 2, 2, 0, 0);
    }
}
