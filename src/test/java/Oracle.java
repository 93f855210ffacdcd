import java.math.BigInteger;
import java.util.ArrayList;
import java.util.Arrays;
import java.util.Collections;
import java.util.HashSet;
import java.util.List;
import java.util.Set;
import java.util.TreeSet;

/**
 * The document once more, read anew and written with the Java library, as slowly as it likes:
 * RandomRunsTest holds the class against it.
 */
public final class Oracle {
    private static final List<String> KINDS = List.of("PUPIL", "GOOD", "READER", "ADDER", "KEEPER", "TWIN");
    private static final Set<String> READING = Set.of("READER", "ADDER", "KEEPER");
    private static final BigInteger MILLION = BigInteger.valueOf(1_000_000);

    private static final class Refusal extends RuntimeException {
        private static final long serialVersionUID = 1L;
        final int number;
        Refusal(int number) {
            super(null, null, false, false);
            this.number = number;
        }
    }

    private static final class Pupil {
        final String kind;
        final int a;
        int desk;
        Pupil(String kind, int desk, int a) {
            this.kind = kind;
            this.desk = desk;
            this.a = a;
        }
        int plain() {
            return kind.equals("GOOD") ? 500 + 10 * a : kind.equals("KEEPER") ? 100 * a : 10 * a;
        }
    }

    private record Note(List<Integer> way, boolean came) { }

    private static final class World {
        int rows = 3;
        List<Pupil> pupils = new ArrayList<>();
        Set<String> barred = new TreeSet<>();
        int term = 8;
        int back = 4;
        int eye = 300;
        int second = 0;
        int seed = 1;
        int sent = 0;
        int came = 0;
        List<Note> notes = new ArrayList<>();

        World copied() {
            World w = new World();
            w.rows = rows;
            for (Pupil p : pupils) {
                w.pupils.add(new Pupil(p.kind, p.desk, p.a));
            }
            w.barred.addAll(barred);
            w.term = term;
            w.back = back;
            w.eye = eye;
            w.second = second;
            w.seed = seed;
            w.sent = sent;
            w.came = came;
            w.notes.addAll(notes);
            return w;
        }

        int holder(int desk) {
            for (int p = 0; p < pupils.size(); p++) {
                if (pupils.get(p).desk == desk) {
                    return p;
                }
            }
            return -1;
        }

        boolean areNeighbours(int p, int q) {
            int d = pupils.get(p).desk;
            int e = pupils.get(q).desk;
            boolean sameRow = d / 4 == e / 4 && Math.abs(d - e) == 1;
            boolean sameColumn = Math.abs(d - e) == 4;
            return (sameRow || sameColumn) && !barred.contains(pair(p, q));
        }

        List<List<Integer>> ways(int from, int to, int most) {
            List<List<Integer>> found = new ArrayList<>();
            List<List<Integer>> open = new ArrayList<>();
            open.add(List.of(from));
            for (int size = 1; size <= most; size++) {
                List<List<Integer>> longer = new ArrayList<>();
                for (List<Integer> way : open) {
                    int last = way.get(way.size() - 1);
                    if (last == to) {
                        found.add(way);
                        continue;
                    }
                    for (int p = 0; p < pupils.size(); p++) {
                        if (!way.contains(p) && areNeighbours(last, p)) {
                            List<Integer> next = new ArrayList<>(way);
                            next.add(p);
                            longer.add(next);
                        }
                    }
                }
                open = longer;
            }
            return found;
        }

        boolean backTurned(int second) {
            return second % term < back;
        }

        int lossOf(int p, boolean isB, int second) {
            int loss = isB ? 0 : pupils.get(p).plain();
            return backTurned(second) ? loss : Math.min(1000, loss + eye);
        }

        int handSeconds(int p) {
            return pupils.get(p).kind.equals("TWIN") ? 2 : 1;
        }

        /** When each hand begins, and last the second of arrival. */
        List<Integer> times(List<Integer> way, int second) {
            List<Integer> times = new ArrayList<>();
            times.add(second);
            for (int i = 0; i + 1 < way.size(); i++) {
                times.add(times.get(i) + handSeconds(way.get(i)));
            }
            return times;
        }

        int chance(List<Integer> way, int second) {
            List<Integer> times = times(way, second);
            long chance = 1_000_000L;
            for (int i = 1; i < way.size(); i++) {
                chance = chance * (1000L - lossOf(way.get(i), i + 1 == way.size(), times.get(i - 1))) / 1000L;
            }
            return (int) chance;
        }

        boolean unseen(List<Integer> way, int second) {
            List<Integer> times = times(way, second);
            return times.subList(0, times.size() - 1).stream().allMatch(this::backTurned);
        }

        List<Integer> readersOf(List<Integer> way) {
            List<Integer> readers = new ArrayList<>();
            for (int p : between(way)) {
                if (READING.contains(pupils.get(p).kind)) {
                    readers.add(p);
                }
            }
            return readers;
        }

        List<Integer> surest(List<List<Integer>> of, int second) {
            List<List<Integer>> sorted = new ArrayList<>(of);
            sorted.sort((x, y) -> {
                int byChance = Integer.compare(chance(y, second), chance(x, second));
                if (byChance != 0) {
                    return byChance;
                }
                if (x.size() != y.size()) {
                    return x.size() - y.size();
                }
                for (int i = 0; i < x.size(); i++) {
                    if (!x.get(i).equals(y.get(i))) {
                        return x.get(i) - y.get(i);
                    }
                }
                return 0;
            });
            return sorted.isEmpty() ? null : sorted.get(0);
        }

        int surestChance(int from, int to, int second) {
            List<Integer> way = surest(ways(from, to, 9), second);
            return way == null ? -1 : chance(way, second);
        }
    }

    private static final class Row {
        final int sort;
        final long[] values;
        Row(int sort, int n) {
            this.sort = sort;
            this.values = new long[n];
        }
        void put(int i, long v) {
            values[i] = sort == 0 ? (byte) v : sort == 1 ? (short) v : sort == 2 ? (int) v
                : sort == 3 ? v : v == 0 ? 0 : 1;
        }
    }

    private World world = new World();
    private World kept = null;
    private final Object[] shelves = new Object[8];
    private final List<Integer> tape = new ArrayList<>();
    private final int[] refusals = new int[5];

    private static String pair(int p, int q) {
        return Math.min(p, q) + "/" + Math.max(p, q);
    }

    private static List<Integer> between(List<Integer> way) {
        return way.subList(1, way.size() - 1);
    }

    private static int bits(Iterable<Integer> pupils) {
        int bits = 0;
        for (int p : pupils) {
            bits += 1 << p;
        }
        return bits;
    }

    private static int product(int x, int y) {
        return BigInteger.valueOf(x).multiply(BigInteger.valueOf(y)).divide(MILLION).intValueExact();
    }

    private static void need(boolean holds, int number) {
        if (!holds) {
            throw new Refusal(number);
        }
    }

    private static void bad(boolean holds) {
        need(holds, -2);
    }

    private static boolean in(long v, long low, long high) {
        return low <= v && v <= high;
    }

    private boolean exists(int p) {
        return in(p, 0, world.pupils.size() - 1);
    }

    private void pairOrBad(int p, int q) {
        bad(exists(p) && exists(q) && p != q);
    }

    private Row[] rowsOn(int... places) {
        for (int s : places) {
            need(!(shelves[s] instanceof Integer), -3);
        }
        Row[] rows = new Row[places.length];
        for (int k = 0; k < places.length; k++) {
            need(shelves[places[k]] != null, -4);
            rows[k] = (Row) shelves[places[k]];
        }
        return rows;
    }

    /** Answers a call by its name; the arguments as the class takes them, a boolean as 0 or 1. */
    public long call(String name, long[] v) {
        int[] x = new int[v.length];
        for (int i = 0; i < v.length; i++) {
            x[i] = (int) v[i];
        }
        try {
            return answer(name, x, v);
        } catch (Refusal r) {
            refusals[-2 - r.number]++;
            return r.number;
        }
    }

    private long answer(String name, int[] x, long[] v) {
        switch (name) {
            case "row": case "set": case "copy": case "element": case "holds": case "show": case "says":
            case "judge": case "told": case "code": case "keyLength":
                return shelfCall(name, x, v);
            case "rows": case "pupil": case "bar": case "move": case "master": case "swap":
                return classCall(name, x);
            case "feed": case "wipe": case "school":
                return tapeCall(name, x);
            case "send": case "note": case "came": case "suspect": case "waits": case "seed":
            case "image": case "back": case "status":
                return truthCall(name, x);
            case "pupilOf": case "at": case "loss": case "crowd": case "inRow": case "edges":
            case "lonely": case "reach":
                return lookCall(name, x);
            default:
                return wayCall(name, x);
        }
    }

    private long shelfCall(String name, int[] x, long[] v) {
        int s = x[0];
        boolean shelf = in(s, 0, 7);
        switch (name) {
            case "row":
                bad(shelf && in(x[1], 0, 4) && in(x[2], 0, 40));
                shelves[s] = new Row(x[1], x[2]);
                return 1;
            case "set": {
                bad(shelf);
                Row row = rowsOn(s)[0];
                bad(in(x[1], 0, row.values.length - 1));
                row.put(x[1], v[2]);
                return 1;
            }
            case "copy": {
                bad(shelf && in(x[1], 0, 7));
                if (shelves[s] instanceof Row p && shelves[x[1]] instanceof Row q) {
                    need(p.sort == q.sort, -3);
                }
                Row[] rows = rowsOn(s, x[1]);
                bad(in(x[4], 0, 40) && x[2] >= 0 && x[3] >= 0);
                bad((long) x[2] + x[4] <= rows[0].values.length && (long) x[3] + x[4] <= rows[1].values.length);
                long[] was = rows[0].values.clone();
                for (int k = 0; k < x[4]; k++) {
                    rows[1].values[x[3] + k] = was[x[2] + k];
                }
                return x[4];
            }
            case "element":
                return shelf && shelves[s] instanceof Row r && in(x[1], 0, r.values.length - 1) ? r.values[x[1]] : 0;
            case "holds":
                if (!shelf || shelves[s] == null) {
                    return -1;
                }
                return shelves[s] instanceof Row r ? r.sort : 10 + (Integer) shelves[s];
            case "show":
                bad(shelf && (x[1] == -1 || exists(x[1])));
                shelves[s] = x[1] == -1 ? null : (Object) x[1];
                return 1;
            case "says":
                bad(shelf && in(x[1], 0, 5));
                return says(s, KINDS.get(x[1]));
            case "judge": {
                bad(shelf && in(x[1], 0, 9));
                Row row = rowsOn(s)[0];
                bad(x[1] <= row.values.length);
                return wrong(row, x[1]);
            }
            case "told": {
                bad(shelf && in(x[1], 2, 9) && in(x[2], 0, 9999) && in(x[3], 0, 2));
                Row row = rowsOn(s)[0];
                bad(x[1] <= row.values.length);
                need(wrong(row, x[1]) == -1, -5);
                List<Integer> way = new ArrayList<>();
                for (int k = 0; k < x[1]; k++) {
                    way.add((int) row.values[k]);
                }
                List<Integer> times = world.times(way, x[2]);
                return x[3] == 0 ? world.chance(way, x[2])
                    : x[3] == 1 ? times.get(times.size() - 1) - x[2] : bits(world.readersOf(way));
            }
            default:
                bad(shelf && in(x[1], 0, 7) && in(x[2], 0, 40));
                return codeCall(name.equals("code"), rowsOn(s, x[1]), x[2]);
        }
    }

    private long says(int s, String as) {
        need(!(shelves[s] instanceof Row), -3);
        need(shelves[s] != null, -4);
        int number = (Integer) shelves[s];
        Pupil p = world.pupils.get(number);
        Set<String> fits = new HashSet<>(List.of("PUPIL", p.kind));
        if (READING.contains(p.kind)) {
            fits.add("READER");
        }
        need(fits.contains(as), -3);
        switch (as) {
            case "PUPIL":
                return p.desk;
            case "GOOD": case "KEEPER":
                return p.plain();
            case "READER":
                return neighbours(number).size();
            case "ADDER":
                return p.a;
            default:
                return 2;
        }
    }

    private long wrong(Row row, int n) {
        for (int k = 0; k < n; k++) {
            long e = row.values[k];
            if (!in(e, 0, world.pupils.size() - 1)) {
                return k;
            }
            for (int j = 0; j < k; j++) {
                if (row.values[j] == e) {
                    return k;
                }
            }
            if (k > 0 && !world.areNeighbours((int) row.values[k - 1], (int) e)) {
                return k;
            }
        }
        return -1;
    }

    private static boolean letters(long[] values, int n) {
        return Arrays.stream(values, 0, n).allMatch(e -> in(e, 0, 25));
    }

    private long codeCall(boolean encode, Row[] rows, int n) {
        long[] text = rows[0].values;
        long[] other = rows[1].values;
        bad(n <= text.length && letters(text, n));
        if (encode) {
            bad(letters(other, other.length));
            need(other.length > 0, -5);
            long[] key = other.clone();
            for (int i = 0; i < n; i++) {
                rows[0].put(i, (text[i] + key[i % key.length]) % 26);
            }
            return n;
        }
        bad(n <= other.length && letters(other, n));
        int k = 0;
        boolean fits = n == 0;
        while (!fits) {
            k++;
            long[] key = new long[k];
            Arrays.fill(key, -1);
            fits = true;
            for (int i = 0; i < n; i++) {
                long needed = (other[i] - text[i] + 26) % 26;
                fits = fits && (key[i % k] == -1 || key[i % k] == needed);
                key[i % k] = needed;
            }
        }
        return k;
    }

    private long classCall(String name, int[] x) {
        World w = world;
        switch (name) {
            case "rows": {
                bad(in(x[0], 2, 4));
                need(w.pupils.isEmpty(), -5);
                int was = w.rows;
                w.rows = x[0];
                return was;
            }
            case "pupil":
                bad(in(x[0], 0, 5) && in(x[1], 0, 4 * w.rows - 1) && in(x[2], 0, 9));
                need(w.holder(x[1]) == -1, -5);
                need(w.pupils.size() < 12, -6);
                w.pupils.add(new Pupil(KINDS.get(x[0]), x[1], x[2]));
                return w.pupils.size() - 1;
            case "bar":
                pairOrBad(x[0], x[1]);
                if (x[2] != 0) {
                    return w.barred.add(pair(x[0], x[1])) ? 1 : 0;
                }
                return w.barred.remove(pair(x[0], x[1])) ? 1 : 0;
            case "move": {
                bad(exists(x[0]) && in(x[1], 0, 4 * w.rows - 1));
                need(w.holder(x[1]) == -1, -5);
                int was = w.pupils.get(x[0]).desk;
                w.pupils.get(x[0]).desk = x[1];
                return was;
            }
            case "master":
                return master(x[0], x[1]);
            default: {
                bad(exists(x[0]) && exists(x[1]));
                int desk = w.pupils.get(x[0]).desk;
                w.pupils.get(x[0]).desk = w.pupils.get(x[1]).desk;
                w.pupils.get(x[1]).desk = desk;
                return x[0] == x[1] ? 0 : 1;
            }
        }
    }

    private int master(int what, int v) {
        bad(in(what, 0, 2));
        int was;
        if (what == 0) {
            bad(in(v, 1, 20));
            was = world.term;
            world.term = v;
            if (world.back > v) {
                world.back = v;
            }
        } else if (what == 1) {
            bad(in(v, 0, world.term));
            was = world.back;
            world.back = v;
        } else {
            bad(in(v, 0, 1000));
            was = world.eye;
            world.eye = v;
        }
        return was;
    }

    private List<Integer> neighbours(int p) {
        List<Integer> found = new ArrayList<>();
        for (int q = 0; q < world.pupils.size(); q++) {
            if (world.areNeighbours(p, q)) {
                found.add(q);
            }
        }
        return found;
    }

    private long tapeCall(String name, int[] x) {
        switch (name) {
            case "feed":
                bad(in(x[0], 0, 255));
                need(tape.size() < 250, -6);
                tape.add(x[0]);
                return tape.size();
            case "wipe": {
                int was = tape.size();
                tape.clear();
                return was;
            }
            default: {
                World was = world;
                world = was.copied();
                long answer = school();
                tape.clear();
                if (answer < 0) {
                    world = was;
                    refusals[0]++;
                }
                return answer;
            }
        }
    }

    private record Token(int place, String text) { }

    private List<Token> tokens() {
        StringBuilder text = new StringBuilder();
        for (int b : tape) {
            text.append((char) b);
        }
        List<Token> tokens = new ArrayList<>();
        java.util.regex.Matcher m = java.util.regex.Pattern.compile("[a-z]+|[0-9]+|;|[^ ]", java.util.regex.Pattern.DOTALL)
            .matcher(text);
        while (m.find()) {
            tokens.add(new Token(m.start(), m.group()));
        }
        tokens.add(new Token(text.length(), ""));
        return tokens;
    }

    private long school() {
        List<Token> tokens = tokens();
        int at = 0;
        int statements = 0;
        while (true) {
            Token word = tokens.get(at);
            int wants = List.of("rows", "move", "bar").contains(word.text) ? (word.text.equals("rows") ? 1 : 2)
                : List.of("pupil", "master").contains(word.text) ? 3 : 0;
            boolean noRoom = word.text.equals("rows") && !world.pupils.isEmpty()
                || word.text.equals("pupil") && world.pupils.size() == 12;
            if (wants == 0 || noRoom) {
                return -20 - word.place;
            }
            int[] n = new int[wants];
            for (int k = 0; k < wants; k++) {
                Token number = tokens.get(at + 1 + k);
                if (!number.text.matches("[0-9]{1,4}")) {
                    return -20 - number.place;
                }
                n[k] = Integer.parseInt(number.text);
                if (!may(word.text, n, k)) {
                    return -20 - number.place;
                }
            }
            carryOut(word.text, n);
            statements++;
            at += 1 + wants;
            if (tokens.get(at).text.isEmpty()) {
                return statements;
            }
            if (!tokens.get(at).text.equals(";")) {
                return -20 - tokens.get(at).place;
            }
            at++;
        }
    }

    private boolean may(String word, int[] n, int k) {
        int v = n[k];
        boolean freeDesk = v < 4 * world.rows && world.holder(v) == -1;
        switch (word + k) {
            case "rows0": return in(v, 2, 4);
            case "pupil0": return v < 6;
            case "pupil1": return freeDesk;
            case "pupil2": return v < 10;
            case "bar0": return exists(v);
            case "bar1": return exists(v) && v != n[0];
            case "move0": return exists(v);
            case "move1": return freeDesk;
            case "master0": return in(v, 1, 20);
            case "master1": return v <= n[0];
            default: return v <= 1000;
        }
    }

    private void carryOut(String word, int[] n) {
        switch (word) {
            case "rows": world.rows = n[0]; break;
            case "pupil": world.pupils.add(new Pupil(KINDS.get(n[0]), n[1], n[2])); break;
            case "bar": world.barred.add(pair(n[0], n[1])); break;
            case "move": world.pupils.get(n[0]).desk = n[1]; break;
            default: world.term = n[0]; world.back = n[1]; world.eye = n[2]; break;
        }
    }

    private long truthCall(String name, int[] x) {
        World w = world;
        switch (name) {
            case "send":
                pairOrBad(x[0], x[1]);
                return send(x[0], x[1]);
            case "note":
                bad(x[0] >= -1);
                if (x[0] == -1) {
                    return w.notes.size();
                }
                need(x[0] < w.notes.size(), -5);
                return bits(w.notes.get(x[0]).way);
            case "came":
                bad(x[0] >= 0);
                need(x[0] < w.notes.size(), -5);
                return w.notes.get(x[0]).came ? 1 : 0;
            case "suspect":
                return suspect();
            case "waits":
                bad(in(x[0], 1, 999));
                w.second += x[0];
                return w.second;
            case "seed": {
                int was = w.seed;
                w.seed = x[0];
                return was;
            }
            case "image":
                kept = w.copied();
                return 1;
            case "back":
                need(kept != null, -5);
                world = kept.copied();
                for (int s = 0; s < 8; s++) {
                    if (shelves[s] instanceof Integer p && !exists(p)) {
                        shelves[s] = null;
                    }
                }
                return 1;
            default: {
                int used = 0;
                for (Object o : shelves) {
                    used += o == null ? 0 : 1;
                }
                int[] all = {w.rows, w.pupils.size(), w.barred.size(), w.term, w.back, w.eye, w.second, w.sent, w.came,
                    tape.size(), w.seed, used, refusals[0], refusals[1], refusals[2], refusals[3], refusals[4]};
                return in(x[0], 0, 16) ? all[x[0]] : -1;
            }
        }
    }

    private int draw(int n) {
        BigInteger product = BigInteger.valueOf(world.seed).multiply(BigInteger.valueOf(1103515245L))
            .add(BigInteger.valueOf(12345L));
        world.seed = product.intValue();
        return (int) (Integer.toUnsignedLong(world.seed) / 65536L % n);
    }

    private long send(int from, int to) {
        List<Integer> way = world.surest(world.ways(from, to, 9), world.second);
        need(way != null, -5);
        List<Integer> times = world.times(way, world.second);
        boolean arrives = true;
        int hand = 0;
        while (arrives && hand < way.size() - 1) {
            int loss = world.lossOf(way.get(hand + 1), hand == way.size() - 2, times.get(hand));
            arrives = draw(1000) >= loss;
            hand++;
        }
        world.second = times.get(hand);
        world.sent++;
        world.came += arrives ? 1 : 0;
        world.notes.add(new Note(way, arrives));
        if (world.notes.size() > 16) {
            world.notes.remove(0);
        }
        return arrives ? 1 : 0;
    }

    private long suspect() {
        int[] lost = new int[12];
        Set<Integer> cleared = new HashSet<>();
        for (Note note : world.notes) {
            for (int p : between(note.way)) {
                if (note.came) {
                    cleared.add(p);
                } else {
                    lost[p]++;
                }
            }
        }
        int best = -1;
        for (int p = 11; p >= 0; p--) {
            if (lost[p] > 0 && !cleared.contains(p) && (best == -1 || lost[p] >= lost[best])) {
                best = p;
            }
        }
        return best;
    }

    private long lookCall(String name, int[] x) {
        World w = world;
        List<Integer> found = new ArrayList<>();
        switch (name) {
            case "pupilOf": {
                bad(exists(x[0]) && in(x[1], 0, 4));
                Pupil p = w.pupils.get(x[0]);
                for (int q = 0; q < w.pupils.size(); q++) {
                    if (w.barred.contains(pair(x[0], q))) {
                        found.add(q);
                    }
                }
                int[] all = {KINDS.indexOf(p.kind), p.desk, p.a, bits(neighbours(x[0])), bits(found)};
                return all[x[1]];
            }
            case "at":
                bad(in(x[0], 0, 4 * w.rows - 1));
                return w.holder(x[0]);
            case "loss":
                bad(exists(x[0]) && in(x[1], 0, 9999));
                return w.lossOf(x[0], false, x[1]);
            case "crowd": {
                need(!w.pupils.isEmpty(), -5);
                int best = 0;
                for (int p = 0; p < w.pupils.size(); p++) {
                    best = neighbours(p).size() > neighbours(best).size() ? p : best;
                }
                return best;
            }
            case "inRow":
                bad(in(x[0], 0, w.rows - 1));
                for (int d = 4 * x[0]; d < 4 * x[0] + 4; d++) {
                    if (w.holder(d) != -1) {
                        found.add(w.holder(d));
                    }
                }
                return bits(found);
            case "edges": {
                int edges = 0;
                for (int p = 0; p < w.pupils.size(); p++) {
                    for (int q : neighbours(p)) {
                        edges += q > p ? 1 : 0;
                    }
                }
                return edges;
            }
            case "lonely":
                for (int p = 0; p < w.pupils.size(); p++) {
                    if (neighbours(p).isEmpty()) {
                        found.add(p);
                    }
                }
                return bits(found);
            default:
                bad(exists(x[0]));
                for (int q = 0; q < w.pupils.size(); q++) {
                    if (q != x[0] && w.ways(x[0], q, 12).stream().anyMatch(way -> w.readersOf(way).isEmpty())) {
                        found.add(q);
                    }
                }
                return bits(found);
        }
    }

    private long wayCall(String name, int[] x) {
        World w = world;
        if (name.equals("spot")) {
            return spot(x);
        }
        pairOrBad(x[0], x[1]);
        if (name.equals("together")) {
            pairOrBad(x[2], x[3]);
            bad(in(x[4], 0, 9999));
        } else if (x.length > 2) {
            bad(in(x[2], 0, 9999) && (x.length < 4 || x[3] >= -1));
        }
        List<List<Integer>> ways = w.ways(x[0], x[1], 9);
        switch (name) {
            case "ways":
                return ways.size();
            case "fewest":
                return ways.stream().mapToInt(way -> way.size() - 1).min().orElse(-1);
            case "cut":
                return cut(x[0], x[1]);
            case "change":
                return change(x);
            case "together":
                return pairs(ways, w.ways(x[2], x[3], 9), x[4], true);
            case "halves":
                return pairs(ways, ways, x[2], false);
            default:
                break;
        }
        if (name.equals("unread")) {
            ways.removeIf(way -> !w.readersOf(way).isEmpty());
        } else if (name.equals("unseen")) {
            ways.removeIf(way -> !w.unseen(way, x[2]));
        }
        need(!ways.isEmpty(), -5);
        switch (name) {
            case "surest": case "unread": case "unseen": {
                List<Integer> way = w.surest(ways, x[2]);
                need(x[3] < way.size(), -5);
                return x[3] == -1 ? w.chance(way, x[2]) : way.get(x[3]);
            }
            case "readers":
                return Collections.min(ways.stream().map(way -> w.readersOf(way).size()).toList());
            case "when": {
                int best = 0;
                for (int s = 1; s < w.term; s++) {
                    best = w.surestChance(x[0], x[1], s) > w.surestChance(x[0], x[1], best) ? s : best;
                }
                return best;
            }
            case "answer": {
                List<Integer> way = w.surest(ways, x[2]);
                List<Integer> times = w.times(way, x[2]);
                return product(w.chance(way, x[2]), w.surestChance(x[1], x[0], times.get(times.size() - 1)));
            }
            case "must": {
                Set<Integer> all = new TreeSet<>(between(ways.get(0)));
                for (List<Integer> way : ways) {
                    all.retainAll(between(way));
                }
                return bits(all);
            }
            default:
                throw new IllegalStateException(name);
        }
    }

    private long pairs(List<List<Integer>> ones, List<List<Integer>> others, int second, boolean whole) {
        long best = -1;
        for (List<Integer> one : ones) {
            for (List<Integer> other : others) {
                boolean bothShort = one.size() == 2 && other.size() == 2;
                boolean apart = whole ? Collections.disjoint(one, other)
                    : Collections.disjoint(between(one), between(other)) && !bothShort;
                if (apart) {
                    best = Math.max(best, product(world.chance(one, second), world.chance(other, second)));
                }
            }
        }
        need(best >= 0, -5);
        return best;
    }

    private long cut(int from, int to) {
        if (world.areNeighbours(from, to)) {
            return -1;
        }
        List<List<Integer>> ways = world.ways(from, to, 12);
        int best = 12;
        for (int set = 0; set < 1 << world.pupils.size(); set++) {
            int gone = set;
            if ((gone >> from & 1) == 0 && (gone >> to & 1) == 0 && Integer.bitCount(gone) < best
                && ways.stream().allMatch(way -> (bits(way) & gone) != 0)) {
                best = Integer.bitCount(gone);
            }
        }
        return best;
    }

    private long change(int[] x) {
        World was = world;
        int most = was.surestChance(x[0], x[1], x[2]);
        int best = -1;
        Set<Integer> ends = Set.of(x[0], x[1]);
        for (int p = 0; p < was.pupils.size(); p++) {
            for (int q = p + 1; q < was.pupils.size(); q++) {
                if (!ends.contains(p) && !ends.contains(q)) {
                    World changed = was.copied();
                    changed.pupils.get(p).desk = was.pupils.get(q).desk;
                    changed.pupils.get(q).desk = was.pupils.get(p).desk;
                    int chance = changed.surestChance(x[0], x[1], x[2]);
                    if (chance > most) {
                        most = chance;
                        best = 100 * p + q;
                    }
                }
            }
        }
        return best;
    }

    private long spot(int[] x) {
        bad(in(x[0], 0, 5) && in(x[1], 0, 9));
        pairOrBad(x[2], x[3]);
        need(world.pupils.size() < 12, -6);
        int most = -2;
        int best = -1;
        for (int desk = 0; desk < 4 * world.rows; desk++) {
            if (world.holder(desk) == -1) {
                World fuller = world.copied();
                fuller.pupils.add(new Pupil(KINDS.get(x[0]), desk, x[1]));
                int chance = fuller.surestChance(x[2], x[3], 0);
                if (chance > most) {
                    most = chance;
                    best = desk;
                }
            }
        }
        need(best != -1, -5);
        return best;
    }
}
