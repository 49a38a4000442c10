import java.io.IOException;
import java.lang.reflect.Constructor;
import java.lang.reflect.Field;
import java.lang.reflect.Method;
import java.lang.reflect.Modifier;
import java.nio.charset.StandardCharsets;
import java.nio.file.Files;
import java.nio.file.Path;
import java.util.ArrayList;
import java.util.Arrays;
import java.util.HashSet;
import java.util.List;
import java.util.Set;
import java.util.TreeSet;
import java.util.regex.Matcher;
import java.util.regex.Pattern;

/** The face of the class, as the document has it, and those rules of LANGUAGE.md that can be seen by a look. */
public final class RulesTest {
    private static final String[] FACE = {
        "int feed(int,int,int,int,int)",
        "boolean end(int)",
        "int board() IllegalArgumentException UnsupportedOperationException",
        "int fault()",
        "int by(int,int) IndexOutOfBoundsException",
        "int turn(int,int) IndexOutOfBoundsException NoSuchElementException",
        "int line(int,int,boolean) IndexOutOfBoundsException",
        "int set(int,int,boolean,int) IndexOutOfBoundsException",
        "int round(int,int) IndexOutOfBoundsException",
        "int frame(int,int,int) IndexOutOfBoundsException",
        "boolean undo()",
        "boolean redo()",
        "int walk(int) IllegalArgumentException NoSuchElementException",
        "long worth()",
        "int turned()",
        "boolean alike() IllegalStateException",
        "long sum()",
        "long listed() IllegalStateException",
        "long states(int)",
        "long mean(int) IndexOutOfBoundsException IllegalArgumentException IllegalStateException",
        "int rests(boolean)",
        "long body(int,int,int) IllegalArgumentException",
        "int dual(int) IndexOutOfBoundsException IllegalStateException",
        "long dualSum() IllegalStateException",
        "long draw(int) IllegalStateException",
        "void image()",
        "boolean back()",
        "int count(int)",
    };
    private static final String[] REFUSED = {
        "->", "::", "synchronized", "assert", "finally", "Thread", "Object", "var", "hashCode", "currentTimeMillis",
        "nanoTime", "Random", "addExact", "subtractExact", "multiplyExact", "getMessage", "NullPointerException",
        "ArrayIndexOutOfBoundsException", "ClassCastException", "NegativeArraySizeException", "ArrayStoreException",
        "Throwable", "Error",
    };

    private static int wrong = 0;

    private static void need(boolean holds, String what) {
        if (!holds) {
            wrong++;
            System.out.println("RulesTest: " + what);
        }
    }

    public static void main(String[] args) throws IOException {
        face();
        members();
        source(Files.readString(Path.of("src/main/java/TurnBoard.java"), StandardCharsets.ISO_8859_1));
        System.out.println(wrong == 0 ? "RulesTest: the rules are kept" : "RulesTest: " + wrong + " wrong");
        if (wrong != 0) {
            System.exit(1);
        }
    }

    private static String told(Method method) {
        StringBuilder text = new StringBuilder(method.getReturnType().getName());
        text.append(' ').append(method.getName()).append('(');
        for (int i = 0; i < method.getParameterCount(); i++) {
            text.append(i == 0 ? "" : ",").append(method.getParameterTypes()[i].getName());
        }
        text.append(')');
        for (Class<?> thrown : method.getExceptionTypes()) {
            text.append(' ').append(thrown.getSimpleName());
        }
        return text.toString();
    }

    private static void face() {
        Set<String> found = new TreeSet<>();
        for (Method method : TurnBoard.class.getDeclaredMethods()) {
            if (!Modifier.isPrivate(method.getModifiers())) {
                found.add(told(method));
            }
        }
        need(found.equals(new TreeSet<>(Arrays.asList(FACE))), "the face is " + found);
        need(Modifier.isFinal(TurnBoard.class.getModifiers()), "the class is not final");
        Constructor<?>[] constructors = TurnBoard.class.getDeclaredConstructors();
        need(constructors.length == 1 && constructors[0].getParameterCount() == 0, "another constructor");
        for (Field field : TurnBoard.class.getDeclaredFields()) {
            boolean constant = field.getName().equals("NONE");
            need(constant || Modifier.isPrivate(field.getModifiers()), field + " is not private");
        }
    }

    private static void members() {
        Set<String> names = new HashSet<>();
        for (String method : FACE) {
            names.add(method.substring(method.indexOf(' ') + 1, method.indexOf('(')));
        }
        List<Class<?>> classes = new ArrayList<>(Arrays.asList(TurnBoard.class.getDeclaredClasses()));
        need(classes.size() <= 11, classes.size() + " classes inside");
        for (Class<?> inside : classes) {
            need(Modifier.isStatic(inside.getModifiers()), inside + " is not static");
            for (Method method : inside.getDeclaredMethods()) {
                need(!names.contains(method.getName()), method + " bears a name of the face");
                need(method.getParameterCount() <= 7, method + " has many parameters");
            }
        }
        classes.add(TurnBoard.class);
        for (Class<?> one : classes) {
            int fields = 0;
            for (Field field : one.getDeclaredFields()) {
                boolean isStatic = Modifier.isStatic(field.getModifiers());
                fields += isStatic ? 0 : 1;
                need(!isStatic || Modifier.isFinal(field.getModifiers()), field + " is static and not final");
            }
            need(fields <= 20, one + " has " + fields + " fields");
        }
    }

    private static void source(String text) {
        String code = text.replaceAll("(?s)/\\*.*?\\*/", "").replaceAll("//.*", "").replaceAll("\"[^\"\n]*\"", "\"\"");
        for (String word : REFUSED) {
            String pattern = Character.isLetter(word.charAt(0)) ? "\\b" + word + "\\b" : Pattern.quote(word);
            need(!Pattern.compile(pattern).matcher(code).find(), word + " stands in the source");
        }
        need(!Pattern.compile("\\bSystem\\.(?!arraycopy\\()").matcher(code).find(), "System but for arraycopy");
        Matcher imports = Pattern.compile("import ([a-zA-Z.]+);").matcher(code);
        while (imports.find()) {
            need(imports.group(1).equals("java.util.NoSuchElementException"), "import " + imports.group(1));
        }
        need(!Pattern.compile("\"\"\\s*\\+|\\+\\s*\"\"").matcher(code).find(), "texts joined by +");
        for (int i = 0; i < text.length(); i++) {
            need(text.charAt(i) < 128, "a sign above 127 at " + i);
        }
        methodLengths(code);
        newObjectsInCalls(code);
    }

    private static void methodLengths(String code) {
        int begin = -1;
        String[] lines = code.split("\n", -1);
        for (int i = 0; i < lines.length; i++) {
            if (lines[i].matches("( {4}| {8})[a-zA-Z].*\\) .*\\{") && !lines[i].contains(" class ")) {
                begin = i;
            }
            if (lines[i].matches("( {4}| {8})\\}") && begin >= 0) {
                need(i - begin <= 60, "a long method at line " + begin);
                begin = -1;
            }
        }
    }

    /** All calls of a run live in one room: only constructors and first values of fields make objects. */
    private static void newObjectsInCalls(String code) {
        Matcher made = Pattern.compile("(?m)^( *)(.*)\\bnew ([A-Za-z]+)\\b(.*)$").matcher(code);
        while (made.find()) {
            boolean thrown = made.group(2).trim().endsWith("throw");
            boolean field = made.group(2).startsWith("private final");
            boolean inConstructor = made.group(1).length() == 8 && made.group(2).matches("[a-zA-Z]+ = ");
            need(thrown || field || inConstructor, "made in a call: " + made.group().trim());
        }
    }
}
