import java.io.IOException;
import java.lang.reflect.Array;
import java.lang.reflect.Constructor;
import java.lang.reflect.Field;
import java.lang.reflect.Method;
import java.lang.reflect.Modifier;
import java.nio.file.Files;
import java.nio.file.Path;
import java.util.ArrayList;
import java.util.HashSet;
import java.util.IdentityHashMap;
import java.util.List;
import java.util.Map;
import java.util.Set;
import java.util.TreeSet;
import java.util.regex.Matcher;
import java.util.regex.Pattern;

/** The public face is the document's, and the rules of the language that can be seen are kept. */
public final class FaceTests {
    private static final String SOURCE = "src/main/java/CableKeeper.java";

    private static final Path DOCUMENT = Path.of("../shared/DOC.md");
    private static final int MOST_HELD = 7000;

    /** Each call of the face, some of them with arguments by which much is done. */
    private static final String[] CALLS = {"count 8", "count 11", "count 18", "count 19", "count 20", "count 22",
        "cable 2 7", "cable 3 9", "ring 5 1", "taken 3", "site 3 3", "way 0 4 3", "way 0 4 4", "firm 1 2", "share 4",
        "group 3 4", "without 2 0", "alike", "told -1", "joined 31", "price 0 9", "all 1 50", "breaks 3", "mend 3",
        "lay 0 4 1 3", "swap 0 4", "image", "undo", "note 5 true", "fits 3 0", "look 3", "years 1 60 0", "restore",
        "forget", "fault", "feed 0 0 0 0 0", "net 20", "net 0"};

    private static final String[] RULED_OUT = {"->", "::", "Exact", "\\btry\\b", "\\bfinally\\b", "\\bcatch\\b",
        "\\bsynchronized\\b", "\\bassert\\b", "\\bprotected\\b", "\\bstatic \\{", "System\\.(?!arraycopy)",
        "\\bhashCode\\b", "\\btoString\\b", "\\bRandom\\b", "\\bThread\\b"};

    private static int wrong = 0;

    private FaceTests() {
    }

    public static void main(String[] args) throws IOException {
        face();
        hidden();
        nested();
        room();
        source(Files.readString(Path.of(SOURCE)));
        System.out.println(wrong == 0 ? "the face is as the document tells" : wrong + " faults");
        if (wrong != 0) {
            System.exit(1);
        }
    }

    private static void hold(boolean holds, String what) {
        if (!holds) {
            wrong++;
            System.out.println(what);
        }
    }

    private static void face() throws IOException {
        Set<String> want = new TreeSet<>();
        String document = Files.readString(DOCUMENT);
        Matcher heads = Pattern.compile("(?m)^    public (\\w+) (\\w+)\\((.*)\\)(?: throws (.*))?;$").matcher(document);
        while (heads.find()) {
            String types = heads.group(3).replaceAll("(\\w+) \\w+", "$1").replace(" ", "");
            String thrown = heads.group(4) == null ? "" : " " + heads.group(4).replace(",", "");
            want.add(heads.group(1) + " " + heads.group(2) + "(" + types + ")" + thrown);
        }
        hold(want.size() == 30, "the document has " + want.size() + " methods");
        Set<String> got = new TreeSet<>();
        for (Method method : CableKeeper.class.getDeclaredMethods()) {
            if (Modifier.isPublic(method.getModifiers())) {
                got.add(text(method));
            }
        }
        hold(want.equals(got), "the public methods are " + got + ", due are " + want);
        int modifiers = CableKeeper.class.getModifiers();
        hold(Modifier.isPublic(modifiers) && Modifier.isFinal(modifiers), "the class is not public and final");
        Constructor<?>[] constructors = CableKeeper.class.getDeclaredConstructors();
        hold(constructors.length == 1 && Modifier.isPublic(constructors[0].getModifiers())
                && constructors[0].getParameterCount() == 0, "the constructor is not the document's");
        hold(CableKeeper.NONE == -1, "NONE is not -1");
    }

    private static String text(Method method) {
        StringBuilder text = new StringBuilder(method.getReturnType().getName());
        text.append(' ').append(method.getName()).append('(');
        for (Class<?> type : method.getParameterTypes()) {
            text.append(text.charAt(text.length() - 1) == '(' ? "" : ",").append(type.getName());
        }
        text.append(')');
        for (Class<?> type : method.getExceptionTypes()) {
            text.append(' ').append(type.getSimpleName());
        }
        return text.toString();
    }

    private static void hidden() {
        for (Method method : CableKeeper.class.getDeclaredMethods()) {
            int modifiers = method.getModifiers();
            hold(Modifier.isPublic(modifiers) || Modifier.isPrivate(modifiers), method + " is not private");
        }
        for (Field field : CableKeeper.class.getDeclaredFields()) {
            int modifiers = field.getModifiers();
            hold(Modifier.isPrivate(modifiers) || field.getName().equals("NONE"), field + " is not private");
        }
    }

    private static void nested() {
        Set<String> names = new HashSet<>();
        for (Method method : CableKeeper.class.getDeclaredMethods()) {
            if (Modifier.isPublic(method.getModifiers())) {
                names.add(method.getName());
            }
        }
        Class<?>[] classes = CableKeeper.class.getDeclaredClasses();
        hold(classes.length <= 11, "there are more than twelve classes");
        for (Method method : CableKeeper.class.getDeclaredMethods()) {
            hold(Modifier.isPublic(method.getModifiers()) || !names.contains(method.getName()),
                    method + " bears a name of the face");
        }
        for (Class<?> each : classes) {
            hold(Modifier.isStatic(each.getModifiers()) && !Modifier.isPublic(each.getModifiers()),
                    each + " is not static, or is public");
            for (Method method : each.getDeclaredMethods()) {
                hold(!names.contains(method.getName()), method + " bears a name of the face");
                hold(method.getParameterCount() <= 7, method + " takes more than seven");
            }
            List<Field> fields = new ArrayList<>(List.of(each.getDeclaredFields()));
            for (Field field : each.getDeclaredFields()) {
                int modifiers = field.getModifiers();
                hold(!Modifier.isStatic(modifiers) || Modifier.isFinal(modifiers), field + " is static state");
                fields.removeIf(f -> Modifier.isStatic(f.getModifiers()));
            }
            hold(fields.size() <= 20, each + " has more than twenty fields");
        }
    }

    /** What an object holds is made in its constructor: it is little, and no call puts another thing in its place. */
    private static void room() {
        CableKeeper keeper = new CableKeeper();
        Calls calls = new Calls(keeper);
        Map<Object, Integer> made = new IdentityHashMap<>();
        hold(keeper, made);
        int sum = made.values().stream().mapToInt(Integer::intValue).sum();
        hold(sum < MOST_HELD, "an object holds " + sum + " fields and elements");
        for (int round = 0; round < 10; round++) {
            for (String feed : Calls.feeds(Checks.RINGS)) {
                calls.answer(feed);
            }
            calls.answer("net " + Checks.RINGS.length());
            for (String call : CALLS) {
                calls.answer(call);
            }
        }
        Map<Object, Integer> later = new IdentityHashMap<>();
        hold(keeper, later);
        hold(later.keySet().equals(made.keySet()), "an object holds what its constructor didn't make");
    }

    private static void hold(Object object, Map<Object, Integer> held) {
        if (object == null || held.containsKey(object)) {
            return;
        }
        if (object.getClass().isArray()) {
            held.put(object, Array.getLength(object));
            return;
        }
        held.put(object, 0);
        int fields = 0;
        for (Field field : object.getClass().getDeclaredFields()) {
            if (Modifier.isStatic(field.getModifiers())) {
                continue;
            }
            fields++;
            try {
                field.setAccessible(true);
                if (!field.getType().isPrimitive()) {
                    hold(field.get(object), held);
                }
            } catch (IllegalAccessException e) {
                throw new AssertionError(e);
            }
        }
        held.put(object, fields);
    }

    private static void source(String source) {
        String bare = source.replaceAll("(?s)/\\*.*?\\*/", "").replaceAll("//.*", "");
        for (String ruledOut : RULED_OUT) {
            hold(!Pattern.compile(ruledOut).matcher(bare).find(), ruledOut + " is ruled out, but used");
        }
        Matcher imports = Pattern.compile("(?m)^import (.*);").matcher(bare);
        while (imports.find()) {
            hold(imports.group(1).equals("java.util.NoSuchElementException"), imports.group() + " is ruled out");
        }
        Matcher thrown = Pattern.compile("throw (new \\w+)").matcher(bare);
        while (thrown.find()) {
            hold(thrown.group(1).matches("new (NoSuchElement|IllegalArgument|IllegalState)Exception"),
                    thrown.group() + " is no exception of the document");
        }
        int start = 0;
        String[] lines = source.split("\n");
        for (int i = 0; i < lines.length; i++) {
            start = lines[i].matches(" +[\\w\\[\\] ]+\\(.*\\{") && !lines[i].matches(".*\\b(if|for|while|switch)\\b.*")
                    ? i : start;
            boolean ends = lines[i].matches("    (    )?\\}");
            hold(!ends || i - start < 60, "line " + (start + 1) + " begins a method of over sixty lines");
            start = ends ? i : start;
        }
        for (char sign : source.toCharArray()) {
            hold(sign == '\n' || sign >= 32 && sign < 127, "the sign " + (int) sign + " is in the source");
        }
    }
}
