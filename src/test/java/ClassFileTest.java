import java.io.File;
import java.io.IOException;
import java.lang.reflect.Array;
import java.lang.reflect.Field;
import java.lang.reflect.Modifier;
import java.net.URISyntaxException;
import java.util.ArrayList;
import java.util.HashMap;
import java.util.HashSet;
import java.util.IdentityHashMap;
import java.util.List;
import java.util.Map;
import java.util.Set;
import java.util.TreeSet;

/** Of ../shared/LANGUAGE.md what can be seen from what the compiler made of the class, rule by rule. */
public final class ClassFileTest {
    /** Rule 4: the library's methods. */
    private static final Map<String, Set<String>> LIBRARY = Map.of(
        "java/lang/Object", Set.of("<init>"),
        "java/lang/String", Set.of("length", "charAt", "isEmpty", "equals", "indexOf", "substring", "toCharArray", "<init>"),
        "java/lang/StringBuilder", Set.of("<init>", "append", "charAt", "setCharAt", "setLength", "deleteCharAt", "reverse", "length",
            "toString"),
        "java/util/ArrayList", Set.of("<init>", "add", "get", "set", "remove", "size", "isEmpty", "clear"),
        "java/util/List", Set.of("of", "add", "get", "set", "remove", "size", "isEmpty", "clear"),
        "java/lang/Math", Set.of("abs", "min", "max", "floorDiv", "floorMod"),
        "java/lang/Integer", Set.of("bitCount", "compare", "min", "max"),
        "java/lang/Long", Set.of("bitCount", "compare", "min", "max"),
        "java/lang/System", Set.of("arraycopy"),
        "java/util/Arrays", Set.of("copyOf", "copyOfRange", "fill"));
    private static final int THROW = 191;
    private static final int MONITOR_ENTER = 194;
    private static final int MONITOR_EXIT = 195;
    private static final int INVOKE_DYNAMIC = 186;
    private static final int INVOKE_INTERFACE = 185;
    private static final int NEW = 187;
    private static final int NEW_ARRAY = 188;
    private static final int NEW_ARRAY_OF = 189;
    private static final int NEW_ARRAY_OF_MORE = 197;
    private static final int CAST = 192;
    private static final int INSTANCE_OF = 193;
    private static final int DEEPEST = 8;
    private static final int MOST_OBJECTS = 60;
    private static final int MOST_FIELDS = 2500;

    private static final List<ClassFile> FILES = new ArrayList<>();
    private static final Map<String, ClassFile.Method> METHODS = new HashMap<>();
    private static int wrong = 0;

    public static void main(String[] args) throws Exception {
        read();
        allFiles();
        for (ClassFile file : FILES) {
            fields(file);
            for (ClassFile.Method method : file.methods) {
                noThrows(file, method);
                library(file, method);
                madeInConstructors(file, method);
            }
        }
        depths();
        sizes();
        System.out.println("ClassFileTest: " + METHODS.size() + " methods, " + wrong + " wrong");
        System.exit(wrong == 0 ? 0 : 1);
    }

    private static void need(boolean holds, String what) {
        if (!holds) {
            wrong++;
            System.out.println("ClassFileTest: " + what);
        }
    }

    private static void read() throws IOException {
        List<Class<?>> all = new ArrayList<>(List.of(UnderTheDesks.class.getDeclaredClasses()));
        all.add(UnderTheDesks.class);
        for (Class<?> each : all) {
            ClassFile file = new ClassFile(each);
            FILES.add(file);
            for (ClassFile.Method method : file.methods) {
                METHODS.put(file.name + "." + method.name() + method.kind(), method);
            }
        }
    }

    private static boolean isOwn(String name) {
        return name.equals("UnderTheDesks") || name.startsWith("UnderTheDesks$");
    }

    /** Rule 2: a class that is neither the public one nor declared in it would be a local or an anonymous one. */
    private static void allFiles() throws URISyntaxException {
        Set<String> declared = new TreeSet<>();
        for (ClassFile file : FILES) {
            declared.add(file.name + ".class");
        }
        File home = new File(UnderTheDesks.class.getProtectionDomain().getCodeSource().getLocation().toURI());
        Set<String> found = new TreeSet<>();
        for (String name : home.list()) {
            if (name.endsWith(".class") && isOwn(name.substring(0, name.length() - 6))) {
                found.add(name);
            }
        }
        need(found.equals(declared), "rule 2: the class files are " + found + ", declared are " + declared);
    }

    /** Rules 3 and 5: what fields may be. */
    private static void fields(ClassFile file) {
        for (ClassFile.Field field : file.fields) {
            String what = file.name + "." + field.name() + " is a " + field.kind();
            String kind = field.kind();
            boolean isNumber = kind.matches("[IJSBCZDF]|\\[\\[?[IJSBCZDF]");
            boolean isOther = kind.matches("\\[?L(java/lang/String|java/lang/StringBuilder|java/util/ArrayList|java/util/List);")
                || kind.matches("\\[?LUnderTheDesks(\\$\\w+)?;");
            need(isNumber || isOther, "rule 3: " + what);
            boolean mayBeStatic = kind.matches("[IJZC]|Ljava/lang/String;|\\[[IJCB]|\\[?LUnderTheDesks\\$\\w+;");
            need(!field.isStatic() || field.isFinal() && mayBeStatic, "rule 5: " + what);
        }
    }

    /** Rule 6, and lambdas and texts joined by + of rules 2 and 10. */
    private static void noThrows(ClassFile file, ClassFile.Method method) {
        String where = file.name + "." + method.name();
        need(method.handlers() == 0, "rule 6: " + where + " catches");
        for (ClassFile.Step step : method.steps()) {
            int opcode = step.opcode();
            need(opcode != THROW && opcode != MONITOR_ENTER && opcode != MONITOR_EXIT, "rule 6: " + where + " has the code " + opcode);
            need(opcode != INVOKE_DYNAMIC, "rules 2 and 10: " + where + " has a lambda, a method reference or texts joined by +");
            need(opcode != CAST && opcode != INSTANCE_OF || isOwn(step.owner()), "rule 6: " + where + " casts to " + step.owner());
        }
    }

    /** Rules 4 and 13. */
    private static void library(ClassFile file, ClassFile.Method method) {
        for (ClassFile.Step step : method.steps()) {
            boolean isNamed = !step.owner().isEmpty() && !step.name().isEmpty();
            boolean isClone = step.owner().startsWith("[") && step.name().equals("clone");
            if (isNamed && !isOwn(step.owner()) && !isClone) {
                Set<String> allowed = LIBRARY.getOrDefault(step.owner(), Set.of());
                String what = file.name + "." + method.name() + " uses " + step.owner() + "." + step.name();
                need(allowed.contains(step.name()), "rule 4: " + what);
            }
        }
    }

    /** Rule 12: this class makes all its rows with the object, so that no call makes anything. */
    private static void madeInConstructors(ClassFile file, ClassFile.Method method) {
        for (ClassFile.Step step : method.steps()) {
            int opcode = step.opcode();
            boolean makes = opcode == NEW || opcode == NEW_ARRAY || opcode == NEW_ARRAY_OF || opcode == NEW_ARRAY_OF_MORE;
            need(!makes || method.name().equals("<init>"), "rule 12: " + file.name + "." + method.name() + " makes " + step.owner());
        }
    }

    /** Rules 8 and 11: only private static methods that call themselves, and at most eight calls open at once without them. */
    private static void depths() {
        Map<String, Integer> known = new HashMap<>();
        for (String method : METHODS.keySet()) {
            int depth = depthOf(method, known, new HashSet<>());
            need(depth <= DEEPEST, "rule 11: " + method + " goes " + depth + " calls deep");
        }
    }

    private static int depthOf(String method, Map<String, Integer> known, Set<String> open) {
        if (known.containsKey(method)) {
            return known.get(method);
        }
        if (!open.add(method)) {
            need(false, "rule 8: methods that call one another: " + open);
            return 0;
        }
        int deepest = 0;
        for (ClassFile.Step step : METHODS.get(method).steps()) {
            String called = step.owner() + "." + step.name() + step.kind();
            if (called.equals(method)) {
                need(METHODS.get(method).isPrivateStatic(), "rule 8: " + method + " calls itself");
            } else if (METHODS.containsKey(called)) {
                deepest = Math.max(deepest, depthOf(called, known, open));
            }
            need(step.opcode() != INVOKE_INTERFACE || !isOwn(step.owner()), "rule 11: " + method + " calls by an interface: how deep?");
        }
        open.remove(method);
        known.put(method, deepest + 1);
        return deepest + 1;
    }

    /** Rule 12 and the room that all calls live in: what one object is made of. */
    private static void sizes() throws IllegalAccessException {
        IdentityHashMap<Object, Boolean> seen = new IdentityHashMap<>();
        int parts = partsOf(new UnderTheDesks(), seen);
        need(seen.size() <= MOST_OBJECTS, "rule 12: an object is made of " + seen.size() + " objects and arrays");
        need(parts <= MOST_FIELDS, "rule 12: an object is made of " + parts + " fields and elements");
    }

    private static int partsOf(Object one, IdentityHashMap<Object, Boolean> seen) throws IllegalAccessException {
        if (one == null || one instanceof String || seen.put(one, true) != null) {
            return 0;
        }
        int parts = 0;
        if (one.getClass().isArray()) {
            parts = Array.getLength(one);
            for (int i = 0; !one.getClass().getComponentType().isPrimitive() && i < Array.getLength(one); i++) {
                parts += partsOf(Array.get(one, i), seen);
            }
            return parts;
        }
        for (Field field : one.getClass().getDeclaredFields()) {
            if (!Modifier.isStatic(field.getModifiers())) {
                parts++;
                if (!field.getType().isPrimitive()) {
                    field.setAccessible(true);
                    parts += partsOf(field.get(one), seen);
                }
            }
        }
        return parts;
    }
}
