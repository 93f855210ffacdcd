import java.lang.reflect.Method;
import java.lang.reflect.Modifier;
import java.util.ArrayList;
import java.util.Arrays;
import java.util.Comparator;
import java.util.HashMap;
import java.util.List;
import java.util.Map;
import java.util.Random;

/** Runs of 512 calls with arguments drawn from fixed seeds, each answer held against the Oracle's. */
public final class RandomRunsTest {
    private static final int RUNS = 3000;
    private static final int CALLS = 512;

    /** What each method's arguments are drawn from. */
    private static final Map<String, String> ARGUMENTS = new HashMap<>();
    static {
        String table = "row:shelf sort size;set:shelf place value;copy:shelf shelf place place small;element:shelf place;"
            + "holds:shelf;show:shelf pupil;says:shelf kind;rows:rows;pupil:kind desk mark;bar:pupil pupil truth;"
            + "move:pupil desk;master:what3 master;feed:byte;pupilOf:pupil what5;at:desk;loss:pupil second;"
            + "ways:pupil pupil;fewest:pupil pupil;surest:pupil pupil second i;unread:pupil pupil second i;"
            + "unseen:pupil pupil second i;readers:pupil pupil;together:pupil pupil pupil pupil second;"
            + "spot:kind mark pupil pupil;inRow:rows;when:pupil pupil;answer:pupil pupil second;"
            + "halves:pupil pupil second;must:pupil pupil;cut:pupil pupil;reach:pupil;judge:shelf told;"
            + "told:shelf told second what3;change:pupil pupil second;code:shelf shelf small;"
            + "keyLength:shelf shelf small;send:pupil pupil;note:i;came:i;swap:pupil pupil;waits:wait;seed:any;"
            + "status:what17";
        for (String line : table.split(";")) {
            ARGUMENTS.put(line.substring(0, line.indexOf(':')), line.substring(line.indexOf(':') + 1));
        }
    }

    private final Random random;
    private final UnderTheDesks desks = new UnderTheDesks();
    private final Oracle oracle = new Oracle();
    private final Map<String, Method> methods;
    private final List<String> names;
    private final List<String> calls = new ArrayList<>();
    private final int run;
    private boolean isWrong = false;
    private int limit = CALLS - 17;

    private RandomRunsTest(int run, Map<String, Method> methods) {
        this.run = run;
        this.methods = methods;
        this.random = new Random(7919L * run + 5);
        this.names = new ArrayList<>(methods.keySet());
        this.names.sort(Comparator.naturalOrder());
    }

    public static void main(String[] args) throws Exception {
        Map<String, Method> methods = new HashMap<>();
        for (Method method : UnderTheDesks.class.getDeclaredMethods()) {
            if (Modifier.isPublic(method.getModifiers())) {
                methods.put(method.getName(), method);
            }
        }
        int runs = args.length > 1 ? Integer.parseInt(args[1]) : RUNS;
        int wrong = 0;
        for (int run = 1; run <= runs; run++) {
            RandomRunsTest one = new RandomRunsTest(run, methods);
            one.go();
            wrong += one.isWrong ? 1 : 0;
        }
        System.out.println("RandomRunsTest: " + runs + " runs, " + wrong + " wrong");
        System.exit(wrong == 0 ? 0 : 1);
    }

    private void go() throws Exception {
        if (random.nextInt(4) != 0) {
            seatMany();
        }
        while (calls.size() < limit && !isWrong) {
            int choice = random.nextInt(40);
            if (choice == 0) {
                tellClass();
            } else if (choice == 1) {
                tellWay();
            } else if (choice == 2) {
                tellLetters();
            } else if (choice == 3) {
                for (int k = random.nextInt(9); k >= 0; k--) {
                    make("send", number("pupil"), number("pupil"));
                }
                make("suspect");
                make("note", random.nextInt(17) - 1);
                make("came", random.nextInt(16));
            } else if (choice == 4) {
                make("when", number("pupil"), number("pupil"));
            } else if (choice == 5) {
                tellShown();
            } else {
                makeDrawn(names.get(random.nextInt(names.size())));
            }
        }
        limit = CALLS;
        for (int what = 0; what < 17; what++) {
            make("status", what);
        }
    }

    private void seatMany() throws Exception {
        int rows = 2 + random.nextInt(3);
        make("rows", rows);
        int wanted = 4 + random.nextInt(13);
        int manner = random.nextInt(3);
        for (int k = 0; k < wanted; k++) {
            int kind = manner == 0 ? 0 : manner == 1 ? 5 * random.nextInt(2) : random.nextInt(6);
            make("pupil", kind, random.nextInt(4 * rows), random.nextInt(manner == 2 ? 10 : 2));
        }
        if (manner == 1) {
            int term = 2 + random.nextInt(6);
            make("master", 0, term);
            make("master", 1, random.nextInt(term));
        }
    }

    private void tellClass() throws Exception {
        if (random.nextInt(8) != 0) {
            make("wipe");
        }
        StringBuilder text = new StringBuilder();
        int statements = 1 + random.nextInt(3);
        for (int k = 0; k < statements; k++) {
            text.append(k == 0 ? "" : random.nextInt(12) == 0 ? " " : ";").append(statement());
        }
        int mutations = random.nextInt(3) == 0 ? 1 + random.nextInt(2) : 0;
        for (int k = 0; k < mutations; k++) {
            String others = "; 0123456789abkpz AZ\u00e9";
            text.setCharAt(random.nextInt(text.length()), others.charAt(random.nextInt(others.length())));
        }
        if (random.nextInt(8) == 0) {
            text.setLength(random.nextInt(text.length() + 1));
        }
        for (int k = 0; k < text.length(); k++) {
            make("feed", text.charAt(k));
        }
        make("school");
    }

    private String statement() {
        String blank = random.nextInt(6) == 0 ? "  " : " ";
        String wide = random.nextInt(10) == 0 ? "00" : "";
        boolean nobody = oracle.call("status", new long[] {1}) == 0;
        switch (random.nextInt(7)) {
            case 0:
                if (!nobody && random.nextInt(6) != 0) {
                    return "master" + blank + (2 + random.nextInt(9)) + " 2 " + random.nextInt(999);
                }
                return "rows" + blank + (random.nextInt(12) == 0 ? 1 + 4 * random.nextInt(2) : 2 + random.nextInt(3));
            case 1:
                return "bar" + blank + random.nextInt(13) + " " + wide + random.nextInt(10);
            case 2:
                return blank + "move " + random.nextInt(10) + blank + random.nextInt(18);
            case 3:
                return "master" + wide + random.nextInt(22) + " " + random.nextInt(8) + blank + random.nextInt(1100);
            default:
                return "pupil" + blank + (random.nextInt(20) == 0 ? 6 : random.nextInt(6)) + " " + wide + random.nextInt(17)
                    + " " + (random.nextInt(20) == 0 ? 10 : random.nextInt(10));
        }
    }

    private void tellWay() throws Exception {
        int shelf = random.nextInt(8);
        make("row", shelf, random.nextInt(4), 9);
        int pupil = random.nextInt(12);
        int size = 2 + random.nextInt(8);
        for (int k = 0; k < size; k++) {
            make("set", shelf, k, pupil);
            long near = make("pupilOf", pupil, 3);
            List<Integer> next = new ArrayList<>();
            for (int p = 0; p < 12 && near > 0; p++) {
                if ((near >> p & 1) != 0) {
                    next.add(p);
                }
            }
            pupil = next.isEmpty() || random.nextInt(8) == 0 ? random.nextInt(14) - 1
                : next.get(random.nextInt(next.size()));
        }
        make("judge", shelf, size);
        for (int n = 2; n <= size; n++) {
            make("told", shelf, n, random.nextInt(40), random.nextInt(3));
        }
    }

    private void tellShown() throws Exception {
        int shelf = random.nextInt(8);
        make("show", shelf, number("pupil"));
        for (int kind = 0; kind < 6; kind++) {
            make("says", shelf, kind);
        }
    }

    private void tellLetters() throws Exception {
        int text = random.nextInt(8);
        int key = random.nextInt(8);
        int size = random.nextInt(16);
        int keySize = random.nextInt(5);
        make("row", text, random.nextInt(5), size);
        make("row", key, random.nextInt(5), keySize);
        for (int k = 0; k < size; k++) {
            make("set", text, k, random.nextInt(random.nextInt(30) == 0 ? 28 : 26));
        }
        for (int k = 0; k < keySize; k++) {
            make("set", key, k, random.nextInt(random.nextInt(20) == 0 ? 28 : 26));
        }
        int third = random.nextInt(8);
        make("row", third, desks.holds(text), size);
        make("holds", text);
        make("copy", text, third, 0, 0, size);
        make("code", text, key, size);
        make("keyLength", third, text, size);
    }

    private void makeDrawn(String name) throws Exception {
        String drawn = ARGUMENTS.getOrDefault(name, "");
        String[] from = drawn.isEmpty() ? new String[0] : drawn.split(" ");
        long[] arguments = new long[from.length];
        for (int k = 0; k < from.length; k++) {
            arguments[k] = random.nextInt(60) == 0 ? extreme() : number(from[k]);
        }
        if (name.equals("master") && random.nextInt(3) != 0) {
            arguments[1] = arguments[0] == 2 ? random.nextInt(1001) : random.nextInt(21);
        }
        make(name, arguments);
    }

    private long extreme() {
        long[] extremes = {Integer.MIN_VALUE, Integer.MAX_VALUE, -1, -2, 10000, 1L << 33, Integer.MAX_VALUE - 3};
        return extremes[random.nextInt(extremes.length)];
    }

    private long number(String from) {
        int pupils = (int) oracle.call("status", new long[] {1});
        switch (from) {
            case "shelf": return random.nextInt(40) == 0 ? 8 : random.nextInt(8);
            case "sort": return random.nextInt(5) + random.nextInt(20) / 19;
            case "size": return random.nextInt(42);
            case "small": return random.nextInt(random.nextInt(4) == 0 ? 42 : 8);
            case "place": return random.nextInt(random.nextInt(4) == 0 ? 42 : 6) - random.nextInt(20) / 19;
            case "value": return random.nextInt(3) == 0 ? random.nextLong() : random.nextInt(30) - 2;
            case "pupil": return random.nextInt(16) == 0 ? random.nextInt(14) - 1 : random.nextInt(Math.max(1, pupils));
            case "kind": return random.nextInt(6) + random.nextInt(20) / 19;
            case "desk": return random.nextInt(17);
            case "rows": return random.nextInt(6);
            case "mark": return random.nextInt(11);
            case "truth": return random.nextInt(2);
            case "master": return random.nextInt(1010);
            case "byte": return random.nextInt(258) - 1;
            case "second": return random.nextInt(6) == 0 ? random.nextInt(10001) : random.nextInt(24);
            case "i": return random.nextInt(12) - 1;
            case "told": return random.nextInt(11);
            case "wait": return random.nextInt(3) == 0 ? random.nextInt(1001) : 1 + random.nextInt(9);
            case "any": return random.nextInt();
            default: return random.nextInt(Integer.parseInt(from.substring(4)) + 1) - random.nextInt(20) / 19;
        }
    }

    private long make(String name, long... arguments) throws Exception {
        if (isWrong || calls.size() >= limit) {
            return 0;
        }
        Method method = methods.get(name);
        Class<?>[] types = method.getParameterTypes();
        Object[] boxed = new Object[types.length];
        long[] seen = new long[types.length];
        for (int k = 0; k < types.length; k++) {
            seen[k] = types[k] == int.class ? (int) arguments[k] : arguments[k];
            if (types[k] == boolean.class) {
                seen[k] = arguments[k] != 0 ? 1 : 0;
                boxed[k] = seen[k] != 0;
            } else if (types[k] == int.class) {
                boxed[k] = (int) seen[k];
            } else {
                boxed[k] = seen[k];
            }
        }
        long got = ((Number) method.invoke(desks, boxed)).longValue();
        long want = oracle.call(name, seen);
        String call = name + Arrays.toString(seen).replace('[', '(').replace(']', ')');
        calls.add(call + " = " + want);
        if (got != want) {
            isWrong = true;
            System.out.println("run " + run + ", call " + calls.size() + ": " + call + " answered " + got
                + ", due is " + want);
            for (String each : calls.subList(Math.max(0, calls.size() - 40), calls.size())) {
                System.out.println("    " + each);
            }
        }
        return want;
    }
}
