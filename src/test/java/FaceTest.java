import java.lang.reflect.Constructor;
import java.lang.reflect.Field;
import java.lang.reflect.Method;
import java.lang.reflect.Modifier;
import java.nio.file.Files;
import java.nio.file.Path;
import java.util.ArrayList;
import java.util.Arrays;
import java.util.List;
import java.util.TreeSet;
import java.util.regex.Matcher;
import java.util.regex.Pattern;

/** The class's face is the document's and no other, and its source keeps to the rules that can be seen in a text. */
public final class FaceTest {
    private static final String[] FACE = {"ground/1", "box/3", "tables/3", "rows/3", "set/4", "at/3", "many/1",
        "time/3", "row/2", "change/3", "drop/1", "plain/0", "makes/0", "off/1", "less/0", "move/3", "walk/2",
        "around/0", "turn/4", "rank/1", "least/0", "find/0", "hand/3", "run/1", "sums/2", "keep/1", "back/1",
        "beside/1", "within/1"};
    private static final String[] CONSTANTS = {"NUMBER", "FULL", "LARGE", "STATE", "ABOVE"};
    private static final String[] FORBIDDEN = {"throw", "throws", "try", "catch", "finally", "synchronized", "assert",
        "equals", "hashCode", "Random", "System\\.(?!arraycopy\\b)\\w+", "\\w+Exact", "Thread", "->", "::",
        "package \\w+;", "import (?!java\\.util\\.Arrays;)\\S+", "protected", "float", "double"};
    private static int wrong = 0;

    public static void main(String[] args) throws Exception {
        face();
        constants();
        classesInside();
        words();
        methods();
        System.out.println(wrong == 0 ? "face: as the document and the rules ask" : "face: " + wrong + " faults");
        if (wrong != 0) {
            System.exit(1);
        }
    }

    private static void due(String what, boolean holds) {
        if (!holds) {
            wrong++;
            System.out.println("not as due: " + what);
        }
    }

    private static void face() {
        Class<?> bench = TimesBench.class;
        due("public and final", Modifier.isPublic(bench.getModifiers()) && Modifier.isFinal(bench.getModifiers()));
        Constructor<?>[] made = bench.getDeclaredConstructors();
        due("one constructor", made.length == 1 && made[0].getParameterCount() == 0
                && Modifier.isPublic(made[0].getModifiers()));
        TreeSet<String> found = new TreeSet<>();
        for (Method method : bench.getDeclaredMethods()) {
            String told = method.getName() + "/" + method.getParameterCount();
            int modifiers = method.getModifiers();
            due(told + " is public or private", Modifier.isPublic(modifiers) || Modifier.isPrivate(modifiers));
            if (!Modifier.isPublic(modifiers)) {
                continue;
            }
            found.add(told);
            due(told + " is no static one", !Modifier.isStatic(modifiers));
            Class<?> answer = method.getName().equals("makes") ? boolean.class : int.class;
            due(told + "'s answer", method.getReturnType() == answer);
            for (Class<?> parameter : method.getParameterTypes()) {
                due(told + "'s parameters", parameter == int.class);
            }
        }
        due("methods: " + found, found.equals(new TreeSet<>(Arrays.asList(FACE))));
    }

    private static void constants() throws Exception {
        TreeSet<String> found = new TreeSet<>();
        for (Field field : TimesBench.class.getDeclaredFields()) {
            int modifiers = field.getModifiers();
            if (!Modifier.isPrivate(modifiers)) {
                found.add(field.getName());
                due(field.getName(), Modifier.isPublic(modifiers) && Modifier.isStatic(modifiers)
                        && Modifier.isFinal(modifiers) && field.getType() == int.class);
            }
        }
        due("constants: " + found, found.equals(new TreeSet<>(Arrays.asList(CONSTANTS))));
        for (int n = 0; n < CONSTANTS.length; n++) {
            due(CONSTANTS[n], TimesBench.class.getField(CONSTANTS[n]).getInt(null) == -1 - n);
        }
    }

    private static void classesInside() {
        Class<?>[] inside = TimesBench.class.getDeclaredClasses();
        due("at most twelve classes", inside.length < 12);
        List<Class<?>> all = new ArrayList<>(Arrays.asList(inside));
        all.add(TimesBench.class);
        TreeSet<String> face = new TreeSet<>();
        for (String told : FACE) {
            face.add(told.substring(0, told.indexOf('/')));
        }
        for (Class<?> one : all) {
            due(one + " is static", one == TimesBench.class || Modifier.isStatic(one.getModifiers()));
            due(one + " holds no class", one == TimesBench.class || one.getDeclaredClasses().length == 0);
            int fields = 0;
            for (Field field : one.getDeclaredFields()) {
                boolean shared = Modifier.isStatic(field.getModifiers());
                due(field + " is final", !shared || Modifier.isFinal(field.getModifiers()));
                fields += shared ? 0 : 1;
            }
            due(one + " has at most twenty fields", fields <= 20);
            for (Method method : one.getDeclaredMethods()) {
                due(method + " has at most seven parameters", method.getParameterCount() <= 7);
                due(method + " has a name of its own",
                        Modifier.isPublic(method.getModifiers()) || !face.contains(method.getName()));
            }
        }
    }

    private static String source() throws Exception {
        String text = Files.readString(Path.of("src/main/java/TimesBench.java"));
        return text.replaceAll("(?s)/\\*.*?\\*/", "").replaceAll("//[^\n]*", "");
    }

    private static void words() throws Exception {
        String code = source();
        for (String word : FORBIDDEN) {
            Matcher matcher = Pattern.compile("(?<!\\w)" + word + "(?!\\w)").matcher(code);
            due("no " + word, !matcher.find());
        }
    }

    private static void methods() throws Exception {
        String[] lines = Files.readString(Path.of("src/main/java/TimesBench.java")).split("\n");
        Pattern head = Pattern.compile("^(    |        )(?:(?!if|for|while|switch)\\S.*? )?(\\w+)\\(.*\\) \\{$");
        for (int at = 0; at < lines.length; at++) {
            Matcher matcher = head.matcher(lines[at]);
            if (!matcher.matches()) {
                continue;
            }
            int end = at;
            while (end < lines.length && !lines[end].equals(matcher.group(1) + "}")) {
                end++;
            }
            due(lines[at].strip() + " is short", end - at <= 60);
            String body = String.join("\n", Arrays.asList(lines).subList(at + 1, end));
            boolean makesObjects = body.contains("new ") && !Character.isUpperCase(matcher.group(2).charAt(0));
            due(lines[at].strip() + " makes no objects, so that the room never fills", !makesObjects);
            boolean callsItself = Pattern.compile("(?<![\\w.])" + matcher.group(2) + "\\(").matcher(body).find();
            due(lines[at].strip() + " calls itself and is private and static",
                    !callsItself || lines[at].strip().startsWith("private static "));
        }
    }
}
