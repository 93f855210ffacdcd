/** A note under the desks: see the document for what each call promises. */
public final class UnderTheDesks {
    public static final int NONE = -1;

    private static final int BAD = -2;
    private static final int OTHER = -3;
    private static final int NOTHING = -4;
    private static final int STUCK = -5;
    private static final int FULL = -6;

    private static final int PUPIL = 0;
    private static final int GOOD = 1;
    private static final int READER = 2;
    private static final int ADDER = 3;
    private static final int KEEPER = 4;
    private static final int TWIN = 5;
    private static final int LAST_KIND = 5;

    private static final int COLUMNS = 4;
    private static final int FEWEST_ROWS = 2;
    private static final int MOST_ROWS = 4;
    private static final int MOST_PUPILS = 12;
    private static final int MOST_MARK = 9;
    private static final int MOST_TERM = 20;
    private static final int MOST_LOSS = 1000;
    private static final int LAST_SECOND = 9999;
    private static final int LONGEST_WAIT = 999;
    private static final int MILLION = 1000000;

    private static final int MOST_ON_WAY = 9;
    // Twelve pupils at sixteen desks have 29 ways from one to another at the most (all cases tried).
    private static final int MOST_WAYS = 48;

    private static final int ANY = 0;
    private static final int UNREAD = 1;
    private static final int UNSEEN = 2;

    private static final int SHELVES = 8;
    private static final int MOST_ELEMENTS = 40;
    private static final int BYTES = 0;
    private static final int SHORTS = 1;
    private static final int INTS = 2;
    private static final int BOOLEANS = 4;
    private static final int FIRST_HELD_PUPIL = 10;
    private static final int LETTERS = 26;

    private static final int MOST_TAPE = 250;
    private static final int MOST_NOTES = 16;
    private static final int REFUSAL_SORTS = 5;
    private static final int FIRST_REFUSAL_STATUS = 12;

    private final Room room = new Room();
    private final Room trial = new Room();
    private final Room keptRoom = new Room();
    private final Truth truth = new Truth();
    private final Truth keptTruth = new Truth();
    private boolean hasImage = false;
    private final Shelf[] shelves = new Shelf[SHELVES];
    private final Tape tape = new Tape();
    private final Lesson lesson = new Lesson(tape, trial);
    private final Ways paths = new Ways();
    private final Ways otherPaths = new Ways();
    private final Walk walk = new Walk();
    private final int[] refusals = new int[REFUSAL_SORTS];

    public UnderTheDesks() {
        for (int s = 0; s < SHELVES; s++) {
            shelves[s] = new Shelf();
        }
    }

    // ---- shelves ----

    public int row(int s, int sort, int n) {
        if (!isShelf(s) || sort < BYTES || sort > BOOLEANS || n < 0 || n > MOST_ELEMENTS) {
            return refuse(BAD);
        }
        shelves[s].holdRow(sort, n);
        return 1;
    }

    public int set(int s, int i, long v) {
        if (!isShelf(s)) {
            return refuse(BAD);
        }
        int fault = rowFault(s);
        if (fault != 0) {
            return refuse(fault);
        }
        if (i < 0 || i >= shelves[s].size) {
            return refuse(BAD);
        }
        shelves[s].put(i, v);
        return 1;
    }

    public int copy(int p, int q, int i, int j, int n) {
        if (!isShelf(p) || !isShelf(q)) {
            return refuse(BAD);
        }
        Shelf source = shelves[p];
        Shelf target = shelves[q];
        if (source.holdsRow() && target.holdsRow() && source.holding != target.holding) {
            return refuse(OTHER);
        }
        int fault = rowsFault(p, q);
        if (fault != 0) {
            return refuse(fault);
        }
        if (!source.hasPlaces(i, n) || !target.hasPlaces(j, n)) {
            return refuse(BAD);
        }
        System.arraycopy(source.cells, i, target.cells, j, n);
        return n;
    }

    public long element(int s, int i) {
        return isShelf(s) && shelves[s].holdsRow() ? shelves[s].cell(i) : 0L;
    }

    public int holds(int s) {
        return isShelf(s) ? shelves[s].holding : NONE;
    }

    public int show(int s, int pupil) {
        if (!isShelf(s) || (pupil != NONE && !room.has(pupil))) {
            return refuse(BAD);
        }
        shelves[s].holdPupil(pupil);
        return 1;
    }

    public int says(int s, int kind) {
        if (!isShelf(s) || !isKind(kind)) {
            return refuse(BAD);
        }
        if (shelves[s].holdsRow()) {
            return refuse(OTHER);
        }
        if (!shelves[s].holdsPupil()) {
            return refuse(NOTHING);
        }
        int pupil = shelves[s].heldPupil();
        if (!isUnder(room.kindOf(pupil), kind)) {
            return refuse(OTHER);
        }
        return wordOf(pupil, kind);
    }

    // ---- the class ----

    public int rows(int n) {
        if (!isRowCount(n)) {
            return refuse(BAD);
        }
        if (room.count > 0) {
            return refuse(STUCK);
        }
        int ahead = room.rowCount;
        room.rowCount = n;
        return ahead;
    }

    public int pupil(int kind, int desk, int a) {
        if (!isKind(kind) || !room.hasDesk(desk) || !isMark(a)) {
            return refuse(BAD);
        }
        if (room.holderOf(desk) != NONE) {
            return refuse(STUCK);
        }
        if (room.isFull()) {
            return refuse(FULL);
        }
        return room.seat(kind, desk, a);
    }

    public int bar(int pupil, int other, boolean is) {
        if (!isPair(pupil, other)) {
            return refuse(BAD);
        }
        if (room.areBarred(pupil, other) == is) {
            return 0;
        }
        room.setBarred(pupil, other, is);
        return 1;
    }

    public int move(int pupil, int desk) {
        if (!room.has(pupil) || !room.hasDesk(desk)) {
            return refuse(BAD);
        }
        if (room.holderOf(desk) != NONE) {
            return refuse(STUCK);
        }
        int ahead = room.deskOf(pupil);
        room.reseat(pupil, desk);
        return ahead;
    }

    public int master(int what, int v) {
        int ahead;
        if (what == 0 && v >= 1 && v <= MOST_TERM) {
            ahead = room.term;
            room.term = v;
            room.turned = Math.min(room.turned, v);
        } else if (what == 1 && v >= 0 && v <= room.term) {
            ahead = room.turned;
            room.turned = v;
        } else if (what == 2 && v >= 0 && v <= MOST_LOSS) {
            ahead = room.eye;
            room.eye = v;
        } else {
            ahead = refuse(BAD);
        }
        return ahead;
    }

    public int feed(int letter) {
        if (letter < 0 || letter > 255) {
            return refuse(BAD);
        }
        if (!tape.add(letter)) {
            return refuse(FULL);
        }
        return tape.size;
    }

    public int wipe() {
        int ahead = tape.size;
        tape.size = 0;
        return ahead;
    }

    public int school() {
        trial.takeOver(room);
        int statements = lesson.read();
        int fault = lesson.start;
        tape.size = 0;
        if (statements == NONE) {
            refuse(BAD);
            return -20 - fault;
        }
        room.takeOver(trial);
        return statements;
    }

    // ---- what there is ----

    public int pupilOf(int pupil, int what) {
        if (!room.has(pupil)) {
            return refuse(BAD);
        }
        switch (what) {
            case 0:
                return room.kindOf(pupil);
            case 1:
                return room.deskOf(pupil);
            case 2:
                return room.markOf(pupil);
            case 3:
                return room.nearOf(pupil);
            case 4:
                return room.barredOf(pupil);
            default:
                return refuse(BAD);
        }
    }

    public int at(int desk) {
        return room.hasDesk(desk) ? room.holderOf(desk) : refuse(BAD);
    }

    public int loss(int pupil, int second) {
        if (!room.has(pupil) || !isSecond(second)) {
            return refuse(BAD);
        }
        return room.lossOf(pupil, false, second);
    }

    public int crowd() {
        if (room.count == 0) {
            return refuse(STUCK);
        }
        int best = 0;
        for (int p = 1; p < room.count; p++) {
            if (room.neighboursOf(p) > room.neighboursOf(best)) {
                best = p;
            }
        }
        return best;
    }

    public int inRow(int row) {
        if (row < 0 || row >= room.rowCount) {
            return refuse(BAD);
        }
        int bits = 0;
        for (int p = 0; p < room.count; p++) {
            if (room.deskOf(p) / COLUMNS == row) {
                bits |= 1 << p;
            }
        }
        return bits;
    }

    public int edges() {
        int ends = 0;
        for (int p = 0; p < room.count; p++) {
            ends += room.neighboursOf(p);
        }
        return ends / 2;
    }

    public int lonely() {
        int bits = 0;
        for (int p = 0; p < room.count; p++) {
            if (room.nearOf(p) == 0) {
                bits |= 1 << p;
            }
        }
        return bits;
    }

    // ---- ways ----

    public int ways(int from, int to) {
        if (!isPair(from, to)) {
            return refuse(BAD);
        }
        paths.find(room, from, to);
        return paths.count;
    }

    public int fewest(int from, int to) {
        if (!isPair(from, to)) {
            return refuse(BAD);
        }
        paths.find(room, from, to);
        int best = NONE;
        for (int w = 0; w < paths.count; w++) {
            int hands = paths.sizeOf(w) - 1;
            if (best == NONE || hands < best) {
                best = hands;
            }
        }
        return best;
    }

    public int surest(int from, int to, int second, int i) {
        return surestOf(from, to, second, i, ANY);
    }

    public int unread(int from, int to, int second, int i) {
        return surestOf(from, to, second, i, UNREAD);
    }

    public int unseen(int from, int to, int second, int i) {
        return surestOf(from, to, second, i, UNSEEN);
    }

    public int readers(int from, int to) {
        if (!isPair(from, to)) {
            return refuse(BAD);
        }
        paths.find(room, from, to);
        if (paths.count == 0) {
            return refuse(STUCK);
        }
        int best = MOST_ON_WAY;
        for (int w = 0; w < paths.count; w++) {
            best = Math.min(best, Integer.bitCount(room.readersAmong(paths.betweenOf(w))));
        }
        return best;
    }

    public int together(int from, int to, int other, int last, int second) {
        if (!isPair(from, to) || !isPair(other, last) || !isSecond(second)) {
            return refuse(BAD);
        }
        paths.find(room, from, to);
        otherPaths.find(room, other, last);
        walk.rate(room, paths, second);
        walk.rate(room, otherPaths, second);
        int best = NONE;
        for (int v = 0; v < paths.count; v++) {
            for (int w = 0; w < otherPaths.count; w++) {
                if ((paths.allOf(v) & otherPaths.allOf(w)) == 0) {
                    best = Math.max(best, both(paths.chanceOf(v), otherPaths.chanceOf(w)));
                }
            }
        }
        return best == NONE ? refuse(STUCK) : best;
    }

    public int spot(int kind, int a, int from, int to) {
        if (!isKind(kind) || !isMark(a) || !isPair(from, to)) {
            return refuse(BAD);
        }
        if (room.isFull()) {
            return refuse(FULL);
        }
        int best = NONE;
        int most = NONE;
        for (int desk = 0; desk < room.deskCount(); desk++) {
            if (room.holderOf(desk) == NONE) {
                trial.takeOver(room);
                trial.seat(kind, desk, a);
                int chance = chanceIn(trial, from, to, 0);
                if (best == NONE || chance > most) {
                    best = desk;
                    most = chance;
                }
            }
        }
        return best == NONE ? refuse(STUCK) : best;
    }

    public int when(int from, int to) {
        if (!isPair(from, to)) {
            return refuse(BAD);
        }
        paths.find(room, from, to);
        int best = NONE;
        int most = NONE;
        for (int second = 0; second < room.term; second++) {
            if (walk.takeSurest(room, paths, second, ANY) && walk.chance > most) {
                best = second;
                most = walk.chance;
            }
        }
        return best == NONE ? refuse(STUCK) : best;
    }

    public int answer(int from, int to, int second) {
        if (!isPair(from, to) || !isSecond(second)) {
            return refuse(BAD);
        }
        int there = chanceIn(room, from, to, second);
        if (there == NONE) {
            return refuse(STUCK);
        }
        int back = chanceIn(room, to, from, second + walk.seconds);
        return back == NONE ? refuse(STUCK) : both(there, back);
    }

    public int halves(int from, int to, int second) {
        if (!isPair(from, to) || !isSecond(second)) {
            return refuse(BAD);
        }
        paths.find(room, from, to);
        walk.rate(room, paths, second);
        int best = NONE;
        for (int v = 0; v < paths.count; v++) {
            for (int w = v + 1; w < paths.count; w++) {
                if ((paths.betweenOf(v) & paths.betweenOf(w)) == 0) {
                    best = Math.max(best, both(paths.chanceOf(v), paths.chanceOf(w)));
                }
            }
        }
        return best == NONE ? refuse(STUCK) : best;
    }

    public int must(int from, int to) {
        if (!isPair(from, to)) {
            return refuse(BAD);
        }
        paths.find(room, from, to);
        if (paths.count == 0) {
            return refuse(STUCK);
        }
        int bits = paths.betweenOf(0);
        for (int w = 1; w < paths.count; w++) {
            bits &= paths.betweenOf(w);
        }
        return bits;
    }

    public int cut(int from, int to) {
        if (!isPair(from, to)) {
            return refuse(BAD);
        }
        if ((room.nearOf(from) >> to & 1) != 0) {
            return NONE;
        }
        // Without all neighbours of one end there is no way: no more than these are needed.
        int best = Math.min(room.neighboursOf(from), room.neighboursOf(to));
        int ends = 1 << from | 1 << to;
        for (int gone = 0; gone < 1 << room.count; gone++) {
            if ((gone & ends) == 0 && Integer.bitCount(gone) < best
                    && (room.reachOf(from, ~gone) >> to & 1) == 0) {
                best = Integer.bitCount(gone);
            }
        }
        return best;
    }

    public int reach(int from) {
        if (!room.has(from)) {
            return refuse(BAD);
        }
        return room.reachOf(from, ~room.readersAmong(room.everybody()));
    }

    public int judge(int s, int n) {
        if (!isShelf(s) || n < 0 || n > MOST_ON_WAY) {
            return refuse(BAD);
        }
        int fault = rowFault(s);
        if (fault != 0) {
            return refuse(fault);
        }
        if (n > shelves[s].size) {
            return refuse(BAD);
        }
        return wrongIn(shelves[s], n);
    }

    public int told(int s, int n, int second, int what) {
        if (!isShelf(s) || n < 2 || n > MOST_ON_WAY || !isSecond(second) || what < 0 || what > 2) {
            return refuse(BAD);
        }
        int fault = rowFault(s);
        if (fault != 0) {
            return refuse(fault);
        }
        if (n > shelves[s].size) {
            return refuse(BAD);
        }
        if (wrongIn(shelves[s], n) != NONE) {
            return refuse(STUCK);
        }
        paths.takeTold(shelves[s], n);
        walk.take(room, paths, 0, second);
        if (what == 0) {
            return walk.chance;
        }
        return what == 1 ? walk.seconds : room.readersAmong(paths.betweenOf(0));
    }

    public int change(int from, int to, int second) {
        if (!isPair(from, to) || !isSecond(second)) {
            return refuse(BAD);
        }
        int best = NONE;
        int most = chanceIn(room, from, to, second);
        for (int p = 0; p < room.count; p++) {
            for (int q = p + 1; q < room.count; q++) {
                if (p != from && p != to && q != from && q != to) {
                    trial.takeOver(room);
                    trial.exchange(p, q);
                    int chance = chanceIn(trial, from, to, second);
                    if (chance > most) {
                        most = chance;
                        best = 100 * p + q;
                    }
                }
            }
        }
        return best;
    }

    // ---- codes ----

    public int code(int s, int t, int n) {
        if (!isShelf(s) || !isShelf(t) || n < 0 || n > MOST_ELEMENTS) {
            return refuse(BAD);
        }
        int fault = rowsFault(s, t);
        if (fault != 0) {
            return refuse(fault);
        }
        Shelf letters = shelves[s];
        Shelf key = shelves[t];
        if (n > letters.size || !letters.hasLetters(n) || !key.hasLetters(key.size)) {
            return refuse(BAD);
        }
        if (key.size < 1) {
            return refuse(STUCK);
        }
        // A row that is its own key keeps each number until its own letter is done.
        for (int i = 0; i < n; i++) {
            letters.put(i, (letters.cell(i) + key.cell(i % key.size)) % LETTERS);
        }
        return n;
    }

    public int keyLength(int s, int t, int n) {
        if (!isShelf(s) || !isShelf(t) || n < 0 || n > MOST_ELEMENTS) {
            return refuse(BAD);
        }
        int fault = rowsFault(s, t);
        if (fault != 0) {
            return refuse(fault);
        }
        Shelf letters = shelves[s];
        Shelf coded = shelves[t];
        if (n > letters.size || n > coded.size || !letters.hasLetters(n) || !coded.hasLetters(n)) {
            return refuse(BAD);
        }
        for (int k = 1; k < n; k++) {
            if (keyWouldDo(letters, coded, n, k)) {
                return k;
            }
        }
        return n;
    }

    // ---- in truth ----

    public int send(int from, int to) {
        if (!isPair(from, to)) {
            return refuse(BAD);
        }
        paths.find(room, from, to);
        if (!walk.takeSurest(room, paths, truth.second, ANY)) {
            return refuse(STUCK);
        }
        return truth.pass(room, paths, walk.way) ? 1 : 0;
    }

    public int note(int i) {
        if (i < NONE) {
            return refuse(BAD);
        }
        if (i == NONE) {
            return truth.kept;
        }
        return truth.hasNote(i) ? truth.allOf(i) : refuse(STUCK);
    }

    public int came(int i) {
        if (i < 0) {
            return refuse(BAD);
        }
        if (!truth.hasNote(i)) {
            return refuse(STUCK);
        }
        return truth.hasCome(i) ? 1 : 0;
    }

    public int suspect() {
        int best = NONE;
        int most = 0;
        for (int p = 0; p < room.count; p++) {
            int lost = truth.lostBy(p);
            if (lost > most) {
                best = p;
                most = lost;
            }
        }
        return best;
    }

    public int swap(int pupil, int other) {
        if (!room.has(pupil) || !room.has(other)) {
            return refuse(BAD);
        }
        if (pupil == other) {
            return 0;
        }
        room.exchange(pupil, other);
        return 1;
    }

    public int waits(int n) {
        if (n < 1 || n > LONGEST_WAIT) {
            return refuse(BAD);
        }
        truth.second += n;
        return truth.second;
    }

    public int seed(int v) {
        int ahead = truth.seed;
        truth.seed = v;
        return ahead;
    }

    public int image() {
        keptRoom.takeOver(room);
        keptTruth.takeOver(truth);
        hasImage = true;
        return 1;
    }

    public int back() {
        if (!hasImage) {
            return refuse(STUCK);
        }
        room.takeOver(keptRoom);
        truth.takeOver(keptTruth);
        for (int s = 0; s < SHELVES; s++) {
            if (shelves[s].holdsPupil() && !room.has(shelves[s].heldPupil())) {
                shelves[s].holdPupil(NONE);
            }
        }
        return 1;
    }

    public int status(int what) {
        switch (what) {
            case 0:
                return room.rowCount;
            case 1:
                return room.count;
            case 2:
                return room.barredPairs();
            case 3:
                return room.term;
            case 4:
                return room.turned;
            case 5:
                return room.eye;
            case 6:
                return truth.second;
            case 7:
                return truth.sent;
            case 8:
                return truth.arrivals;
            case 9:
                return tape.size;
            case 10:
                return truth.seed;
            case 11:
                return shelvesInUse();
            default:
                return refusalsOf(what - FIRST_REFUSAL_STATUS);
        }
    }

    // ---- refusals and what numbers may be ----

    private int refuse(int number) {
        int sort = BAD - number;
        if (sort >= 0 && sort < REFUSAL_SORTS) {
            refusals[sort]++;
        }
        return number;
    }

    private int refusalsOf(int sort) {
        return sort >= 0 && sort < REFUSAL_SORTS ? refusals[sort] : NONE;
    }

    private static boolean isShelf(int s) {
        return s >= 0 && s < SHELVES;
    }

    private static boolean isKind(int kind) {
        return kind >= PUPIL && kind <= LAST_KIND;
    }

    private static boolean isMark(int a) {
        return a >= 0 && a <= MOST_MARK;
    }

    private static boolean isSecond(int second) {
        return second >= 0 && second <= LAST_SECOND;
    }

    private static boolean isRowCount(int n) {
        return n >= FEWEST_ROWS && n <= MOST_ROWS;
    }

    private boolean isPair(int pupil, int other) {
        return room.has(pupil) && room.has(other) && pupil != other;
    }

    private static boolean isUnder(int kind, int upper) {
        return kind == upper || upper == PUPIL || (upper == READER && reads(kind));
    }

    private static boolean reads(int kind) {
        return kind == READER || kind == ADDER || kind == KEEPER;
    }

    private int rowFault(int s) {
        return rowsFault(s, s);
    }

    /** Why shelves s and t aren't both rows; 0 if they are. */
    private int rowsFault(int s, int t) {
        if (!isShelf(s) || !isShelf(t)) {
            return BAD;
        }
        if (shelves[s].holdsPupil() || shelves[t].holdsPupil()) {
            return OTHER;
        }
        return shelves[s].holdsRow() && shelves[t].holdsRow() ? 0 : NOTHING;
    }

    private int shelvesInUse() {
        int used = 0;
        for (int s = 0; s < SHELVES; s++) {
            if (shelves[s].holding != NONE) {
                used++;
            }
        }
        return used;
    }

    private int wordOf(int pupil, int kind) {
        switch (kind) {
            case GOOD:
            case KEEPER:
                return room.plainLossOf(pupil);
            case READER:
                return room.neighboursOf(pupil);
            case ADDER:
                return room.markOf(pupil);
            case TWIN:
                return room.handOf(pupil);
            default:
                return room.deskOf(pupil);
        }
    }

    private int surestOf(int from, int to, int second, int i, int want) {
        if (!isPair(from, to) || !isSecond(second) || i < NONE) {
            return refuse(BAD);
        }
        paths.find(room, from, to);
        if (!walk.takeSurest(room, paths, second, want)) {
            return refuse(STUCK);
        }
        if (i == NONE) {
            return walk.chance;
        }
        return i < paths.sizeOf(walk.way) ? paths.pupilOn(walk.way, i) : refuse(STUCK);
    }

    /** The chance of the surest way, which the walk has then taken; NONE if there is no way. */
    private int chanceIn(Room place, int from, int to, int second) {
        paths.find(place, from, to);
        return walk.takeSurest(place, paths, second, ANY) ? walk.chance : NONE;
    }

    private static int both(int chance, int other) {
        return (int) ((long) chance * other / MILLION);
    }

    private int wrongIn(Shelf told, int n) {
        int there = 0;
        int ahead = NONE;
        for (int i = 0; i < n; i++) {
            long number = told.cell(i);
            if (number < 0 || number >= room.count) {
                return i;
            }
            int pupil = (int) number;
            if ((there >> pupil & 1) != 0 || (ahead != NONE && (room.nearOf(ahead) >> pupil & 1) == 0)) {
                return i;
            }
            there |= 1 << pupil;
            ahead = pupil;
        }
        return NONE;
    }

    private static boolean keyWouldDo(Shelf letters, Shelf coded, int n, int k) {
        for (int i = k; i < n; i++) {
            long step = coded.cell(i) - letters.cell(i);
            long first = coded.cell(i - k) - letters.cell(i - k);
            if ((step - first) % LETTERS != 0) {
                return false;
            }
        }
        return true;
    }

    /** The pupils at their desks, who is barred, and the master. */
    private static final class Room {
        int rowCount = 3;
        int count = 0;
        int term = 8;
        int turned = 4;
        int eye = 300;
        private final int[] kinds = new int[MOST_PUPILS];
        private final int[] desks = new int[MOST_PUPILS];
        private final int[] marks = new int[MOST_PUPILS];
        private final int[] barred = new int[MOST_PUPILS];
        private final int[] near = new int[MOST_PUPILS];

        void takeOver(Room other) {
            rowCount = other.rowCount;
            count = other.count;
            term = other.term;
            turned = other.turned;
            eye = other.eye;
            System.arraycopy(other.kinds, 0, kinds, 0, MOST_PUPILS);
            System.arraycopy(other.desks, 0, desks, 0, MOST_PUPILS);
            System.arraycopy(other.marks, 0, marks, 0, MOST_PUPILS);
            System.arraycopy(other.barred, 0, barred, 0, MOST_PUPILS);
            System.arraycopy(other.near, 0, near, 0, MOST_PUPILS);
        }

        boolean has(int pupil) {
            return pupil >= 0 && pupil < count && pupil < MOST_PUPILS;
        }

        boolean isFull() {
            return count >= MOST_PUPILS;
        }

        int deskCount() {
            return rowCount * COLUMNS;
        }

        boolean hasDesk(int desk) {
            return desk >= 0 && desk < deskCount();
        }

        int everybody() {
            return (1 << count) - 1;
        }

        int kindOf(int pupil) {
            return has(pupil) ? kinds[pupil] : NONE;
        }

        int deskOf(int pupil) {
            return has(pupil) ? desks[pupil] : NONE;
        }

        int markOf(int pupil) {
            return has(pupil) ? marks[pupil] : NONE;
        }

        int nearOf(int pupil) {
            return has(pupil) ? near[pupil] : 0;
        }

        int barredOf(int pupil) {
            return has(pupil) ? barred[pupil] : 0;
        }

        int neighboursOf(int pupil) {
            return Integer.bitCount(nearOf(pupil));
        }

        int holderOf(int desk) {
            for (int p = 0; p < count && p < MOST_PUPILS; p++) {
                if (desks[p] == desk) {
                    return p;
                }
            }
            return NONE;
        }

        int seat(int kind, int desk, int mark) {
            if (count < 0 || count >= MOST_PUPILS) {
                return NONE;
            }
            int pupil = count;
            count++;
            kinds[pupil] = kind;
            desks[pupil] = desk;
            marks[pupil] = mark;
            barred[pupil] = 0;
            link();
            return pupil;
        }

        void reseat(int pupil, int desk) {
            if (has(pupil)) {
                desks[pupil] = desk;
                link();
            }
        }

        void exchange(int pupil, int other) {
            if (has(pupil) && has(other)) {
                int desk = desks[pupil];
                desks[pupil] = desks[other];
                desks[other] = desk;
                link();
            }
        }

        boolean areBarred(int pupil, int other) {
            return (barredOf(pupil) >> other & 1) != 0;
        }

        void setBarred(int pupil, int other, boolean is) {
            if (has(pupil) && has(other)) {
                barred[pupil] = is ? barred[pupil] | 1 << other : barred[pupil] & ~(1 << other);
                barred[other] = is ? barred[other] | 1 << pupil : barred[other] & ~(1 << pupil);
                link();
            }
        }

        int barredPairs() {
            int ends = 0;
            for (int p = 0; p < count; p++) {
                ends += Integer.bitCount(barredOf(p));
            }
            return ends / 2;
        }

        private void link() {
            for (int p = 0; p < count && p < MOST_PUPILS; p++) {
                near[p] = 0;
                for (int q = 0; q < count && q < MOST_PUPILS; q++) {
                    if (areBeside(desks[p], desks[q]) && (barred[p] >> q & 1) == 0) {
                        near[p] |= 1 << q;
                    }
                }
            }
        }

        private static boolean areBeside(int desk, int other) {
            return Math.abs(desk / COLUMNS - other / COLUMNS) + Math.abs(desk % COLUMNS - other % COLUMNS) == 1;
        }

        int readersAmong(int bits) {
            int readers = 0;
            for (int p = 0; p < count; p++) {
                if ((bits >> p & 1) != 0 && reads(kindOf(p))) {
                    readers |= 1 << p;
                }
            }
            return readers;
        }

        /** Whom a note gets to, any number of hands away, if only he who sends it and the passing give it on. */
        int reachOf(int from, int passing) {
            int reached = nearOf(from);
            for (int round = 0; round < count; round++) {
                for (int p = 0; p < count; p++) {
                    if ((reached & passing & 1 << p) != 0) {
                        reached |= nearOf(p);
                    }
                }
            }
            return reached & ~(1 << from);
        }

        boolean looks(int second) {
            return term < 1 || second % term >= turned;
        }

        int handOf(int giver) {
            return kindOf(giver) == TWIN ? 2 : 1;
        }

        int plainLossOf(int pupil) {
            if (!has(pupil)) {
                return 0;
            }
            switch (kinds[pupil]) {
                case GOOD:
                    return 500 + 10 * marks[pupil];
                case KEEPER:
                    return 100 * marks[pupil];
                default:
                    return 10 * marks[pupil];
            }
        }

        int lossOf(int pupil, boolean isLast, int second) {
            int lost = isLast ? 0 : plainLossOf(pupil);
            return looks(second) ? Math.min(lost + eye, MOST_LOSS) : lost;
        }
    }

    /** All ways from one pupil to another, the first by rows of numbers ahead. */
    private static final class Ways {
        int count = 0;
        private final int[] pupils = new int[MOST_WAYS * MOST_ON_WAY];
        private final int[] sizes = new int[MOST_WAYS];
        private final int[] chances = new int[MOST_WAYS];
        private final int[] trail = new int[MOST_ON_WAY];

        void find(Room room, int from, int to) {
            count = 0;
            if (room.has(from) && room.has(to)) {
                trail[0] = from;
                extend(this, room, to, 1, 1 << from);
            }
        }

        /** The size grows with each level, so that no more than nine stand open. */
        private static void extend(Ways list, Room room, int to, int size, int used) {
            if (size < 1 || size > MOST_ON_WAY) {
                return;
            }
            int last = list.trail[size - 1];
            if (last == to) {
                list.keep(size);
                return;
            }
            if (size == MOST_ON_WAY) {
                return;
            }
            int next = room.nearOf(last) & ~used;
            for (int p = 0; p < room.count; p++) {
                if ((next >> p & 1) != 0) {
                    list.trail[size] = p;
                    extend(list, room, to, size + 1, used | 1 << p);
                }
            }
        }

        /** Only the told way is in the list then. */
        void takeTold(Shelf told, int n) {
            count = 0;
            for (int i = 0; i < n && i < MOST_ON_WAY; i++) {
                trail[i] = (int) told.cell(i);
            }
            keep(n);
        }

        private void keep(int size) {
            if (count >= 0 && count < MOST_WAYS && size >= 1 && size <= MOST_ON_WAY) {
                System.arraycopy(trail, 0, pupils, count * MOST_ON_WAY, size);
                sizes[count] = size;
                count++;
            }
        }

        private boolean has(int way) {
            return way >= 0 && way < count && way < MOST_WAYS;
        }

        int sizeOf(int way) {
            return has(way) ? sizes[way] : 0;
        }

        int pupilOn(int way, int i) {
            return i >= 0 && i < sizeOf(way) ? pupils[way * MOST_ON_WAY + i] : NONE;
        }

        int allOf(int way) {
            int bits = 0;
            for (int i = 0; i < sizeOf(way); i++) {
                bits |= 1 << pupilOn(way, i);
            }
            return bits;
        }

        int betweenOf(int way) {
            int bits = 0;
            for (int i = 1; i < sizeOf(way) - 1; i++) {
                bits |= 1 << pupilOn(way, i);
            }
            return bits;
        }

        void setChance(int way, int chance) {
            if (has(way)) {
                chances[way] = chance;
            }
        }

        int chanceOf(int way) {
            return has(way) ? chances[way] : 0;
        }
    }

    /** What comes of a way that a note is sent at a second. */
    private static final class Walk {
        int way = NONE;
        int chance = 0;
        int seconds = 0;
        private boolean seen = false;

        void take(Room room, Ways list, int taken, int second) {
            way = taken;
            chance = MILLION;
            seconds = 0;
            seen = false;
            int hands = list.sizeOf(taken) - 1;
            for (int h = 0; h < hands; h++) {
                int begins = second + seconds;
                int lost = room.lossOf(list.pupilOn(taken, h + 1), h == hands - 1, begins);
                chance = chance * (MOST_LOSS - lost) / MOST_LOSS;
                seen = seen || room.looks(begins);
                seconds += room.handOf(list.pupilOn(taken, h));
            }
        }

        /** Takes the surest of those wanted; false if there is none. */
        boolean takeSurest(Room room, Ways list, int second, int want) {
            int best = NONE;
            int most = NONE;
            for (int w = 0; w < list.count; w++) {
                take(room, list, w, second);
                boolean isBetter = chance > most || (chance == most && list.sizeOf(w) < list.sizeOf(best));
                if (isBetter && isWanted(room, list, want)) {
                    best = w;
                    most = chance;
                }
            }
            take(room, list, best, second);
            return best != NONE;
        }

        private boolean isWanted(Room room, Ways list, int want) {
            if (want == UNREAD) {
                return room.readersAmong(list.betweenOf(way)) == 0;
            }
            return want != UNSEEN || !seen;
        }

        void rate(Room room, Ways list, int second) {
            for (int w = 0; w < list.count; w++) {
                take(room, list, w, second);
                list.setChance(w, chance);
            }
        }
    }

    /** What happened: the seconds that went by, the draws, the notes sent. */
    private static final class Truth {
        int second = 0;
        int seed = 1;
        int sent = 0;
        int arrivals = 0;
        int kept = 0;
        private final int[] alls = new int[MOST_NOTES];
        private final int[] betweens = new int[MOST_NOTES];
        private final int[] outcomes = new int[MOST_NOTES];

        void takeOver(Truth other) {
            second = other.second;
            seed = other.seed;
            sent = other.sent;
            arrivals = other.arrivals;
            kept = other.kept;
            System.arraycopy(other.alls, 0, alls, 0, MOST_NOTES);
            System.arraycopy(other.betweens, 0, betweens, 0, MOST_NOTES);
            System.arraycopy(other.outcomes, 0, outcomes, 0, MOST_NOTES);
        }

        private int draw(int n) {
            seed = seed * 1103515245 + 12345;
            return n < 1 ? 0 : (seed >>> 16) % n;
        }

        boolean pass(Room room, Ways list, int way) {
            int hands = list.sizeOf(way) - 1;
            boolean isLost = false;
            for (int h = 0; h < hands && !isLost; h++) {
                int lost = room.lossOf(list.pupilOn(way, h + 1), h == hands - 1, second);
                isLost = draw(MOST_LOSS) < lost;
                second += room.handOf(list.pupilOn(way, h));
            }
            sent++;
            if (!isLost) {
                arrivals++;
            }
            keep(list.allOf(way), list.betweenOf(way), isLost ? 0 : 1);
            return !isLost;
        }

        private void keep(int all, int between, int outcome) {
            if (kept >= MOST_NOTES) {
                System.arraycopy(alls, 1, alls, 0, MOST_NOTES - 1);
                System.arraycopy(betweens, 1, betweens, 0, MOST_NOTES - 1);
                System.arraycopy(outcomes, 1, outcomes, 0, MOST_NOTES - 1);
                kept = MOST_NOTES - 1;
            }
            if (kept >= 0) {
                alls[kept] = all;
                betweens[kept] = between;
                outcomes[kept] = outcome;
                kept++;
            }
        }

        boolean hasNote(int i) {
            return i >= 0 && i < kept && i < MOST_NOTES;
        }

        int allOf(int i) {
            return hasNote(i) ? alls[i] : 0;
        }

        boolean hasCome(int i) {
            return hasNote(i) && outcomes[i] == 1;
        }

        /** In how many lost notes the pupil was between; 0 if he was in one that came. */
        int lostBy(int pupil) {
            int lost = 0;
            for (int i = 0; i < kept && i < MOST_NOTES; i++) {
                if ((betweens[i] >> pupil & 1) != 0) {
                    if (outcomes[i] == 1) {
                        return 0;
                    }
                    lost++;
                }
            }
            return lost;
        }
    }

    /** What a shelf holds: NONE, the sort of its row, or 10 and a pupil's number. */
    private static final class Shelf {
        int holding = NONE;
        int size = 0;
        private final long[] cells = new long[MOST_ELEMENTS];

        void holdRow(int sort, int n) {
            holding = sort;
            size = n >= 0 && n <= MOST_ELEMENTS ? n : 0;
            for (int i = 0; i < MOST_ELEMENTS; i++) {
                cells[i] = 0L;
            }
        }

        void holdPupil(int pupil) {
            holding = pupil < 0 ? NONE : FIRST_HELD_PUPIL + pupil;
            size = 0;
        }

        boolean holdsRow() {
            return holding >= BYTES && holding <= BOOLEANS;
        }

        boolean holdsPupil() {
            return holding >= FIRST_HELD_PUPIL;
        }

        int heldPupil() {
            return holdsPupil() ? holding - FIRST_HELD_PUPIL : NONE;
        }

        boolean hasPlaces(int first, int n) {
            return first >= 0 && n >= 0 && n <= size && first <= size - n;
        }

        long cell(int i) {
            return i >= 0 && i < size ? cells[i] : 0L;
        }

        void put(int i, long v) {
            if (i >= 0 && i < size) {
                cells[i] = narrowed(v);
            }
        }

        private long narrowed(long v) {
            switch (holding) {
                case BYTES:
                    return (byte) v;
                case SHORTS:
                    return (short) v;
                case INTS:
                    return (int) v;
                case BOOLEANS:
                    return v != 0L ? 1L : 0L;
                default:
                    return v;
            }
        }

        boolean hasLetters(int n) {
            for (int i = 0; i < n; i++) {
                if (cell(i) < 0L || cell(i) >= LETTERS) {
                    return false;
                }
            }
            return true;
        }
    }

    private static final class Tape {
        int size = 0;
        private final int[] bytes = new int[MOST_TAPE];

        boolean add(int letter) {
            if (size < 0 || size >= MOST_TAPE) {
                return false;
            }
            bytes[size] = letter;
            size++;
            return true;
        }

        /** The byte at a place; NONE behind the last. */
        int byteAt(int place) {
            return place >= 0 && place < size && place < MOST_TAPE ? bytes[place] : NONE;
        }
    }

    /** Reads a class from the tape into a room, token by token. */
    private static final class Lesson {
        private static final int END = 0;
        private static final int WORD = 1;
        private static final int NUMBER = 2;
        private static final int SIGN = 3;
        private static final int NO_TOKEN = 4;
        private static final int MOST_DIGITS = 4;

        private final Tape tape;
        private final Room room;
        int start = 0;
        private int place = 0;
        private int token = END;

        Lesson(Tape tape, Room room) {
            this.tape = tape;
            this.room = room;
        }

        /** How many statements there are; NONE if there is a fault: it is where the last token starts. */
        int read() {
            place = 0;
            for (int done = 1; done <= MOST_TAPE; done++) {
                next();
                if (!readStatement()) {
                    return NONE;
                }
                next();
                if (token == END) {
                    return done;
                }
                if (token != SIGN) {
                    return NONE;
                }
            }
            return NONE;
        }

        private boolean readStatement() {
            if (isWord("rows")) {
                return room.count == 0 && readRows();
            }
            if (isWord("pupil")) {
                return !room.isFull() && readPupil();
            }
            if (isWord("bar")) {
                return readBar();
            }
            if (isWord("move")) {
                return readMove();
            }
            return isWord("master") && readMaster();
        }

        private boolean readRows() {
            int n = nextNumber(FEWEST_ROWS, MOST_ROWS);
            if (n == NONE) {
                return false;
            }
            room.rowCount = n;
            return true;
        }

        private boolean readPupil() {
            int kind = nextNumber(PUPIL, LAST_KIND);
            int desk = kind == NONE ? NONE : onlyFree(nextNumber(0, room.deskCount() - 1));
            int mark = desk == NONE ? NONE : nextNumber(0, MOST_MARK);
            return mark != NONE && room.seat(kind, desk, mark) != NONE;
        }

        private boolean readBar() {
            int pupil = nextNumber(0, room.count - 1);
            int other = pupil == NONE ? NONE : nextNumber(0, room.count - 1);
            if (other == NONE || other == pupil) {
                return false;
            }
            room.setBarred(pupil, other, true);
            return true;
        }

        private boolean readMove() {
            int pupil = nextNumber(0, room.count - 1);
            int desk = pupil == NONE ? NONE : onlyFree(nextNumber(0, room.deskCount() - 1));
            if (desk == NONE) {
                return false;
            }
            room.reseat(pupil, desk);
            return true;
        }

        private boolean readMaster() {
            int term = nextNumber(1, MOST_TERM);
            int turned = term == NONE ? NONE : nextNumber(0, term);
            int eye = turned == NONE ? NONE : nextNumber(0, MOST_LOSS);
            if (eye == NONE) {
                return false;
            }
            room.term = term;
            room.turned = turned;
            room.eye = eye;
            return true;
        }

        private int onlyFree(int desk) {
            return desk != NONE && room.holderOf(desk) == NONE ? desk : NONE;
        }

        /** The next token, if it is a number from low to high; else NONE. */
        private int nextNumber(int low, int high) {
            next();
            if (token != NUMBER || place - start > MOST_DIGITS) {
                return NONE;
            }
            int value = 0;
            for (int i = start; i < place; i++) {
                value = 10 * value + tape.byteAt(i) - '0';
            }
            return value >= low && value <= high ? value : NONE;
        }

        private void next() {
            start = place;
            while (start < tape.size && tape.byteAt(start) == ' ') {
                start++;
            }
            place = start;
            token = sortOf(tape.byteAt(start));
            if (token == WORD || token == NUMBER) {
                while (place < tape.size && sortOf(tape.byteAt(place)) == token) {
                    place++;
                }
            } else if (token != END) {
                place++;
            }
        }

        private static int sortOf(int letter) {
            if (letter == NONE) {
                return END;
            }
            if (letter >= 'a' && letter <= 'z') {
                return WORD;
            }
            if (letter >= '0' && letter <= '9') {
                return NUMBER;
            }
            return letter == ';' ? SIGN : NO_TOKEN;
        }

        private boolean isWord(String word) {
            if (token != WORD || place - start != word.length()) {
                return false;
            }
            for (int i = 0; i < word.length(); i++) {
                if (tape.byteAt(start + i) != word.charAt(i)) {
                    return false;
                }
            }
            return true;
        }
    }
}
