import java.io.IOException;
import java.lang.reflect.Constructor;
import java.lang.reflect.Field;
import java.lang.reflect.Method;
import java.lang.reflect.Modifier;
import java.nio.charset.StandardCharsets;
import java.nio.file.Files;
import java.nio.file.Path;
import java.util.ArrayList;
import java.util.Arrays;
import java.util.List;
import java.util.Set;
import java.util.TreeSet;
import java.util.regex.Matcher;
import java.util.regex.Pattern;

/** The face of the document, and of ../shared/LANGUAGE.md what can be seen from the class and its text. */
public final class LanguageTest {
    private static final String FACE = "row(int,int,int) set(int,int,long) copy(int,int,int,int,int) element(int,int):long holds(int)"
        + " show(int,int) says(int,int) rows(int) pupil(int,int,int) bar(int,int,boolean) move(int,int) master(int,int) feed(int)"
        + " wipe() school() pupilOf(int,int) at(int) loss(int,int) ways(int,int) fewest(int,int) surest(int,int,int,int)"
        + " unread(int,int,int,int) unseen(int,int,int,int) readers(int,int) together(int,int,int,int,int) spot(int,int,int,int)"
        + " crowd() inRow(int) edges() lonely() when(int,int) answer(int,int,int) halves(int,int,int) must(int,int) cut(int,int)"
        + " reach(int) judge(int,int) told(int,int,int,int) change(int,int,int) code(int,int,int) keyLength(int,int,int)"
        + " send(int,int) note(int) came(int) suspect() swap(int,int) waits(int) seed(int) image() back() status(int)";
    private static final String[] BARRED_TEXTS = {"\\bthrows?\\b", "\\btry\\b", "\\bcatch\\b", "\\bsynchronized\\b", "\\bassert\\b",
        "\\bimport\\b", "\\bpackage\\b", "->", "::", "@", "\\w+Exact\\b", "\\bstatic\\s*\\{", "\\bprotected\\b", "\\bvar\\b", "\\bObject\\b",
        "\\bSystem\\.(?!arraycopy\\b)", "\\bequals\\b", "\\bhashCode\\b", "\\btoString\\b", "\\bThread\\b", "\"\\s*\\+", "\\+\\s*\"",
        "while\\s*\\(true\\)", "for\\s*\\(;;\\)", "[^\\x00-\\x7F]"};

    private static int wrong = 0;

    public static void main(String[] args) throws IOException {
        face();
        fields();
        nestedClasses();
        String text = Files.readString(Path.of(args.length > 0 ? args[0] : "src/main/java/UnderTheDesks.java"), StandardCharsets.UTF_8);
        barredTexts(text);
        methodLengths(text);
        System.out.println("LanguageTest: " + wrong + " wrong");
        System.exit(wrong == 0 ? 0 : 1);
    }

    private static void need(boolean holds, String what) {
        if (!holds) {
            wrong++;
            System.out.println("LanguageTest: " + what);
        }
    }

    private static void face() {
        Set<String> due = new TreeSet<>(Arrays.asList(FACE.split(" ")));
        Set<String> found = new TreeSet<>();
        for (Method method : UnderTheDesks.class.getDeclaredMethods()) {
            if (Modifier.isPublic(method.getModifiers())) {
                List<String> types = new ArrayList<>();
                for (Class<?> type : method.getParameterTypes()) {
                    types.add(type.getName());
                }
                String returns = method.getReturnType() == int.class ? "" : ":" + method.getReturnType().getName();
                found.add(method.getName() + "(" + String.join(",", types) + ")" + returns);
                need(!Modifier.isStatic(method.getModifiers()), method.getName() + " is static");
            } else {
                need(Modifier.isPrivate(method.getModifiers()), method.getName() + " is neither public nor private");
            }
        }
        need(found.equals(due), "the public methods are " + found + ", due are " + due);
        int modifiers = UnderTheDesks.class.getModifiers();
        need(Modifier.isPublic(modifiers) && Modifier.isFinal(modifiers), "the class is not public and final");
        Constructor<?>[] constructors = UnderTheDesks.class.getDeclaredConstructors();
        need(constructors.length == 1 && Modifier.isPublic(constructors[0].getModifiers())
            && constructors[0].getParameterCount() == 0, "the constructor");
    }

    private static void fields() {
        for (Field field : UnderTheDesks.class.getDeclaredFields()) {
            int modifiers = field.getModifiers();
            if (field.getName().equals("NONE")) {
                need(Modifier.isPublic(modifiers) && Modifier.isStatic(modifiers) && Modifier.isFinal(modifiers)
                    && field.getType() == int.class, "NONE");
            } else {
                need(Modifier.isPrivate(modifiers), field.getName() + " is not private");
            }
        }
    }

    private static void nestedClasses() {
        Class<?>[] nested = UnderTheDesks.class.getDeclaredClasses();
        need(nested.length <= 11, nested.length + " classes inside");
        Set<String> names = new TreeSet<>();
        for (String method : FACE.split(" ")) {
            names.add(method.substring(0, method.indexOf('(')));
        }
        List<Class<?>> all = new ArrayList<>(Arrays.asList(nested));
        all.add(UnderTheDesks.class);
        for (Class<?> each : all) {
            need(each == UnderTheDesks.class || Modifier.isStatic(each.getModifiers()), each + " is not static");
            int own = 0;
            for (Field field : each.getDeclaredFields()) {
                own += Modifier.isStatic(field.getModifiers()) ? 0 : 1;
                need(!Modifier.isStatic(field.getModifiers()) || Modifier.isFinal(field.getModifiers()), field + " is static");
            }
            need(own <= 20, each + " has " + own + " fields");
            for (Method method : each.getDeclaredMethods()) {
                need(method.getParameterCount() <= 7, method + " takes too many parameters");
                need(Modifier.isPublic(method.getModifiers()) || !names.contains(method.getName()),
                    method + " bears the name of a public one");
            }
        }
    }

    private static void barredTexts(String text) {
        String bare = text.replaceAll("(?s)/\\*.*?\\*/", " ").replaceAll("//[^\n]*", " ");
        for (String barred : BARRED_TEXTS) {
            Matcher matcher = Pattern.compile(barred).matcher(bare);
            need(!matcher.find(), "the class's text has " + barred);
        }
    }

    private static void methodLengths(String text) {
        String[] lines = text.split("\n");
        Pattern head = Pattern.compile("^( {4}| {8})(public |private |static |final )*[A-Za-z\\[\\]<>]+ ?\\w*\\(.*\\{$");
        for (int i = 0; i < lines.length; i++) {
            Matcher matcher = head.matcher(lines[i]);
            if (matcher.find() && !lines[i].trim().startsWith("if ") && !lines[i].trim().startsWith("for ")) {
                String end = matcher.group(1) + "}";
                int last = i;
                while (last < lines.length && !lines[last].equals(end)) {
                    last++;
                }
                need(last - i < 60, "the method in line " + (i + 1) + " has " + (last - i + 1) + " lines");
            }
        }
    }
}
