import java.io.IOException;
import java.lang.reflect.Constructor;
import java.lang.reflect.Field;
import java.lang.reflect.Method;
import java.lang.reflect.Modifier;
import java.nio.file.Files;
import java.nio.file.Path;
import java.util.ArrayList;
import java.util.HashSet;
import java.util.List;
import java.util.Set;
import java.util.TreeSet;
import java.util.regex.Matcher;
import java.util.regex.Pattern;

/** The public face is the document's, and the rules of the language that can be seen are kept. */
public final class FaceTests {
    private static final String SOURCE = "src/main/java/CableKeeper.java";

    private static final String[] FACE = {"int feed(int,int,int,int,int)", "int net(int) IllegalArgumentException",
        "int fault()", "int count(int) NoSuchElementException", "int cable(int,int) NoSuchElementException",
        "int ring(int,int) NoSuchElementException", "int taken(int) NoSuchElementException",
        "int site(int,int) NoSuchElementException", "int way(int,int,int) NoSuchElementException",
        "int firm(int,int) NoSuchElementException", "int share(int) NoSuchElementException",
        "int group(int,int) IllegalArgumentException NoSuchElementException",
        "int without(int,int) NoSuchElementException", "long alike()", "int told(int) NoSuchElementException",
        "int joined(int) IllegalArgumentException", "int swap(int,int) NoSuchElementException",
        "int price(int,int)", "int all(int,int)", "int breaks(int)", "int mend(int)", "int lay(int,int,int,int)",
        "int undo()", "int note(int,boolean)", "int fits(int,int) NoSuchElementException IllegalStateException",
        "int look(int) NoSuchElementException IllegalStateException", "void forget()",
        "int years(int,int,int) NoSuchElementException IllegalArgumentException", "void image()",
        "boolean restore()"};

    private static final String[] RULED_OUT = {"->", "::", "Exact", "\\btry\\b", "\\bfinally\\b", "\\bcatch\\b",
        "\\bsynchronized\\b", "\\bassert\\b", "\\bprotected\\b", "\\bstatic \\{", "System\\.(?!arraycopy)",
        "\\bhashCode\\b", "\\btoString\\b", "\\bRandom\\b", "\\bThread\\b"};

    private static int wrong = 0;

    private FaceTests() {
    }

    public static void main(String[] args) throws IOException {
        face();
        hidden();
        nested();
        source(Files.readString(Path.of(SOURCE)));
        System.out.println(wrong == 0 ? "the face is as the document tells" : wrong + " faults");
        if (wrong != 0) {
            System.exit(1);
        }
    }

    private static void hold(boolean holds, String what) {
        if (!holds) {
            wrong++;
            System.out.println(what);
        }
    }

    private static void face() {
        Set<String> want = new TreeSet<>(List.of(FACE));
        Set<String> got = new TreeSet<>();
        for (Method method : CableKeeper.class.getDeclaredMethods()) {
            if (Modifier.isPublic(method.getModifiers())) {
                got.add(text(method));
            }
        }
        hold(want.equals(got), "the public methods are " + got + ", due are " + want);
        int modifiers = CableKeeper.class.getModifiers();
        hold(Modifier.isPublic(modifiers) && Modifier.isFinal(modifiers), "the class is not public and final");
        Constructor<?>[] constructors = CableKeeper.class.getDeclaredConstructors();
        hold(constructors.length == 1 && Modifier.isPublic(constructors[0].getModifiers())
                && constructors[0].getParameterCount() == 0, "the constructor is not the document's");
        hold(CableKeeper.NONE == -1, "NONE is not -1");
    }

    private static String text(Method method) {
        StringBuilder text = new StringBuilder(method.getReturnType().getName());
        text.append(' ').append(method.getName()).append('(');
        for (Class<?> type : method.getParameterTypes()) {
            text.append(text.charAt(text.length() - 1) == '(' ? "" : ",").append(type.getName());
        }
        text.append(')');
        for (Class<?> type : method.getExceptionTypes()) {
            text.append(' ').append(type.getSimpleName());
        }
        return text.toString();
    }

    private static void hidden() {
        for (Method method : CableKeeper.class.getDeclaredMethods()) {
            int modifiers = method.getModifiers();
            hold(Modifier.isPublic(modifiers) || Modifier.isPrivate(modifiers), method + " is not private");
        }
        for (Field field : CableKeeper.class.getDeclaredFields()) {
            int modifiers = field.getModifiers();
            hold(Modifier.isPrivate(modifiers) || field.getName().equals("NONE"), field + " is not private");
        }
    }

    private static void nested() {
        Set<String> names = new HashSet<>();
        for (Method method : CableKeeper.class.getDeclaredMethods()) {
            if (Modifier.isPublic(method.getModifiers())) {
                names.add(method.getName());
            }
        }
        Class<?>[] classes = CableKeeper.class.getDeclaredClasses();
        hold(classes.length <= 11, "there are more than twelve classes");
        for (Method method : CableKeeper.class.getDeclaredMethods()) {
            hold(Modifier.isPublic(method.getModifiers()) || !names.contains(method.getName()),
                    method + " bears a name of the face");
        }
        for (Class<?> each : classes) {
            hold(Modifier.isStatic(each.getModifiers()) && !Modifier.isPublic(each.getModifiers()),
                    each + " is not static, or is public");
            for (Method method : each.getDeclaredMethods()) {
                hold(!names.contains(method.getName()), method + " bears a name of the face");
                hold(method.getParameterCount() <= 7, method + " takes more than seven");
            }
            List<Field> fields = new ArrayList<>(List.of(each.getDeclaredFields()));
            for (Field field : each.getDeclaredFields()) {
                int modifiers = field.getModifiers();
                hold(!Modifier.isStatic(modifiers) || Modifier.isFinal(modifiers), field + " is static state");
                fields.removeIf(f -> Modifier.isStatic(f.getModifiers()));
            }
            hold(fields.size() <= 20, each + " has more than twenty fields");
        }
    }

    private static void source(String source) {
        String bare = source.replaceAll("(?s)/\\*.*?\\*/", "").replaceAll("//.*", "");
        for (String ruledOut : RULED_OUT) {
            hold(!Pattern.compile(ruledOut).matcher(bare).find(), ruledOut + " is ruled out, but used");
        }
        Matcher imports = Pattern.compile("(?m)^import (.*);").matcher(bare);
        while (imports.find()) {
            hold(imports.group(1).equals("java.util.NoSuchElementException"), imports.group() + " is ruled out");
        }
        Matcher thrown = Pattern.compile("throw (new \\w+)").matcher(bare);
        while (thrown.find()) {
            hold(thrown.group(1).matches("new (NoSuchElement|IllegalArgument|IllegalState)Exception"),
                    thrown.group() + " is no exception of the document");
        }
        int start = 0;
        String[] lines = source.split("\n");
        for (int i = 0; i < lines.length; i++) {
            start = lines[i].matches(" +[\\w\\[\\] ]+\\(.*\\{") && !lines[i].matches(".*\\b(if|for|while|switch)\\b.*")
                    ? i : start;
            boolean ends = lines[i].matches("    (    )?\\}");
            hold(!ends || i - start < 60, "line " + (start + 1) + " begins a method of over sixty lines");
            start = ends ? i : start;
        }
        for (char sign : source.toCharArray()) {
            hold(sign == '\n' || sign >= 32 && sign < 127, "the sign " + (int) sign + " is in the source");
        }
    }
}
