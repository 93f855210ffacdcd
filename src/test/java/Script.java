import java.lang.reflect.InvocationTargetException;
import java.lang.reflect.Method;
import java.util.ArrayList;
import java.util.Arrays;
import java.util.HashMap;
import java.util.List;
import java.util.Map;
import java.util.Set;
import java.util.regex.Matcher;
import java.util.regex.Pattern;

/**
 * Runs of calls told by text, each run on a new object:
 * <pre>
 *   name(1,2)=3    answers 3 and refuses nothing; if it only asks, nothing at all is changed
 *   name(1,2)!-2   is refused with -2, and nothing is changed but how many there were
 *   name(1,2)      is made, whatever it answers
 *   16*name(1,2)   is made sixteen times
 *   [rows 2;bar]   feeds the tape, byte by byte
 * </pre>
 * MIN and MAX are the least and the greatest number of the argument's type.
 */
final class Script {
    private static final int MOST_CALLS = 512;
    private static final Pattern STEP =
        Pattern.compile("\\s*(?:\\[([^\\]]*)\\]|(?:(\\d+)\\*)?(\\w+)\\(([^)]*)\\)(?:([=!])(-?\\d+))?)\\s*");
    private static final Set<String> ASKING = Set.of("element", "holds", "says", "pupilOf", "at", "loss", "ways", "fewest",
        "surest", "unread", "unseen", "readers", "together", "spot", "crowd", "inRow", "edges", "lonely", "when", "answer",
        "halves", "must", "cut", "reach", "judge", "told", "change", "keyLength", "note", "came", "suspect", "status");
    private static final Map<String, Method> METHODS = methods();

    private final Due due;

    Script(Due due) {
        this.due = due;
    }

    private record Call(String name, List<Object> arguments) {
        @Override
        public String toString() {
            return name + arguments.toString().replace('[', '(').replace(']', ')');
        }
    }

    /** An object and how many calls it has answered: none after the 512th is promised. */
    private static final class Used {
        private final UnderTheDesks desks = new UnderTheDesks();
        private int calls = 0;

        long make(Call call) {
            calls++;
            if (calls > MOST_CALLS) {
                throw new IllegalStateException("the test makes more than " + MOST_CALLS + " calls: " + call);
            }
            try {
                return ((Number) METHODS.get(call.name()).invoke(desks, call.arguments().toArray())).longValue();
            } catch (InvocationTargetException | IllegalAccessException e) {
                throw new IllegalStateException(call + " failed", e);
            }
        }

        long make(String name, Object... arguments) {
            return make(new Call(name, Arrays.asList(arguments)));
        }
    }

    /** Makes the calls of the text, and holds the answers it tells against those that come. */
    void run(String promise, String text) {
        List<Call> made = new ArrayList<>();
        Used used = new Used();
        Matcher step = STEP.matcher(text);
        int place = 0;
        while (place < text.length()) {
            if (!step.find(place) || step.start() != place) {
                throw new IllegalStateException("not a call: " + text.substring(place));
            }
            place = step.end();
            List<Call> calls = callsOf(step);
            for (Call call : calls) {
                long got = used.make(call);
                if (step.group(5) != null) {
                    String told = promise + ": " + call + " after " + tail(made);
                    long want = Long.parseLong(step.group(6));
                    due.is(told, got, want);
                    checkChanges(told, made, call, step.group(5).equals("!"), want);
                }
                made.add(call);
            }
        }
    }

    private static String tail(List<Call> made) {
        return made.subList(Math.max(0, made.size() - 8), made.size()).toString();
    }

    private static List<Call> callsOf(Matcher step) {
        List<Call> calls = new ArrayList<>();
        if (step.group(1) != null) {
            for (char letter : step.group(1).toCharArray()) {
                calls.add(new Call("feed", List.of((int) letter)));
            }
            return calls;
        }
        Call call = new Call(step.group(3), argumentsOf(step.group(3), step.group(4)));
        int times = step.group(2) == null ? 1 : Integer.parseInt(step.group(2));
        for (int k = 0; k < times; k++) {
            calls.add(call);
        }
        return calls;
    }

    private static List<Object> argumentsOf(String name, String text) {
        Method method = METHODS.get(name);
        String[] words = text.isBlank() ? new String[0] : text.split(",");
        if (method == null || method.getParameterCount() != words.length) {
            throw new IllegalStateException("no such method: " + name + "(" + text + ")");
        }
        List<Object> arguments = new ArrayList<>();
        for (int k = 0; k < words.length; k++) {
            arguments.add(argumentOf(method.getParameterTypes()[k], words[k].trim()));
        }
        return arguments;
    }

    private static Object argumentOf(Class<?> type, String word) {
        if (type == boolean.class) {
            return Boolean.valueOf(word);
        }
        if (type == long.class) {
            return word.equals("MIN") ? Long.MIN_VALUE : word.equals("MAX") ? Long.MAX_VALUE : Long.parseLong(word);
        }
        return word.equals("MIN") ? Integer.MIN_VALUE : word.equals("MAX") ? Integer.MAX_VALUE : Integer.parseInt(word);
    }

    /** Holds two objects that have made the same calls against each other, but that only the one has made the last. */
    private void checkChanges(String told, List<Call> made, Call call, boolean isRefused, long answer) {
        Used without = after(made);
        Used with = after(made);
        with.make(call);
        if (isRefused && call.name().equals("school")) {
            without.make("wipe");
        }
        int refusal = !isRefused ? -1 : answer <= -20 ? 0 : (int) (-2 - answer);
        for (int k = 0; k < 5; k++) {
            due.is(told + ": refusals of " + (-2 - k), with.make("status", 12 + k),
                without.make("status", 12 + k) + (k == refusal ? 1 : 0));
        }
        if (isRefused || ASKING.contains(call.name())) {
            List<String> before = allOf(without);
            List<String> then = allOf(with);
            if (!before.equals(then)) {
                due.is(told + " has changed " + firstChange(before, then), 1, 0);
            }
        }
    }

    private static Used after(List<Call> made) {
        Used used = new Used();
        for (Call call : made) {
            used.make(call);
        }
        return used;
    }

    private static String firstChange(List<String> before, List<String> then) {
        for (int k = 0; k < Math.min(before.size(), then.size()); k++) {
            if (!before.get(k).equals(then.get(k))) {
                return before.get(k) + " to " + then.get(k);
            }
        }
        return before.size() + " answers to " + then.size();
    }

    /** All that an object can be asked for; then what its tape tells, and what it has kept. */
    private static List<String> allOf(Used used) {
        List<String> told = new ArrayList<>();
        tellRoom(used, told);
        for (int s = 0; s < 8; s++) {
            ask(used, told, "holds", s);
            int size = used.make("holds", s) >= 0 && used.make("holds", s) <= 4 ? sizeOf(used, s) : 0;
            told.add("size of " + s + " is " + size);
            for (int i = 0; i < size; i++) {
                ask(used, told, "element", s, i);
            }
        }
        ask(used, told, "school");
        tellRoom(used, told);
        ask(used, told, "back");
        tellRoom(used, told);
        return told;
    }

    private static void tellRoom(Used used, List<String> told) {
        for (int what = 0; what < 12; what++) {
            ask(used, told, "status", what);
        }
        long pupils = used.make("status", 1);
        for (int p = 0; p < pupils; p++) {
            for (int what = 0; what < 5; what++) {
                ask(used, told, "pupilOf", p, what);
            }
        }
        long notes = used.make("note", -1);
        for (int i = 0; i < notes; i++) {
            ask(used, told, "note", i);
            ask(used, told, "came", i);
        }
        ask(used, told, "suspect");
    }

    private static void ask(Used used, List<String> told, String name, Object... arguments) {
        told.add(name + Arrays.toString(arguments) + " is " + used.make(name, arguments));
    }

    /** The size of a row: a copy of so many elements to where they are changes nothing. */
    private static int sizeOf(Used used, int s) {
        int low = 0;
        int high = 40;
        while (low < high) {
            int n = (low + high + 1) / 2;
            if (used.make("copy", s, s, 0, 0, n) == n) {
                low = n;
            } else {
                high = n - 1;
            }
        }
        return low;
    }

    private static Map<String, Method> methods() {
        Map<String, Method> methods = new HashMap<>();
        for (Method method : UnderTheDesks.class.getMethods()) {
            if (method.getDeclaringClass() == UnderTheDesks.class) {
                methods.put(method.getName(), method);
            }
        }
        return methods;
    }

    // ---- texts that several tests are made of ----

    /** Pupils without a mark at the desks from the first to the last, in their order. */
    static String seated(int first, int last) {
        StringBuilder calls = new StringBuilder();
        for (int desk = first; desk <= last; desk++) {
            calls.append("pupil(0,").append(desk).append(",0) ");
        }
        return calls.toString();
    }

    /** A class with a ^ ahead of the token at fault (behind all: it ends too early). */
    static String fault(String marked) {
        return "[" + marked.replace("^", "") + "] school()!" + (-20 - marked.indexOf('^')) + " ";
    }
}
