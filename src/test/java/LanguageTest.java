import java.io.IOException;
import java.lang.reflect.Constructor;
import java.lang.reflect.Field;
import java.lang.reflect.Method;
import java.lang.reflect.Modifier;
import java.nio.file.Files;
import java.nio.file.Path;
import java.util.ArrayList;
import java.util.List;
import java.util.Map;
import java.util.TreeMap;
import java.util.TreeSet;
import java.util.regex.Matcher;
import java.util.regex.Pattern;

/** The rules of LANGUAGE.md that can be seen in the source or in the compiled class. */
public final class LanguageTest {
    private static final Check CHECK = new Check("LanguageTest");

    private static final List<String> FACE = List.of(
            "int at(int,int)", "int boxOf(int,int)", "int count(int)", "int drop()", "int falses()",
            "int far(int,int,int)", "int forget(int)", "int hop(int)", "int nets()", "int next()",
            "int shape(int)", "int sure(int,int)", "int tell(int,int,boolean)", "int trace()",
            "int untell()", "int worst()");

    public static void main(String[] args) throws IOException {
        String source = Files.readString(Path.of("src/main/java/NetShape.java"));
        String code = withoutComments(source);
        face();
        fields();
        classesInside();
        methods();
        types();
        words(code);
        library(code);
        loops(code);
        makings(code);
        methodLengths(code);
        callDepths(code);
        CHECK.close();
    }

    private static String withoutComments(String source) {
        return source.replaceAll("(?s)/\\*.*?\\*/", "").replaceAll("//[^\n]*", "");
    }

    private static String told(Method method) {
        StringBuilder text = new StringBuilder(method.getReturnType().getSimpleName());
        text.append(' ').append(method.getName()).append('(');
        for (Class<?> type : method.getParameterTypes()) {
            text.append(text.charAt(text.length() - 1) == '(' ? "" : ",").append(type.getSimpleName());
        }
        return text.append(')').toString();
    }

    private static void face() {
        int mods = NetShape.class.getModifiers();
        CHECK.holds("the class is public and final", Modifier.isPublic(mods) && Modifier.isFinal(mods));
        CHECK.holds("no package", NetShape.class.getPackageName().isEmpty());
        TreeSet<String> open = new TreeSet<>();
        TreeSet<String> names = new TreeSet<>();
        for (Method method : NetShape.class.getDeclaredMethods()) {
            if (!Modifier.isPrivate(method.getModifiers())) {
                CHECK.holds(method + " is public, not static", method.getModifiers() == Modifier.PUBLIC);
                open.add(told(method));
                names.add(method.getName());
            }
        }
        CHECK.holds("the face is the document's: " + open, open.equals(new TreeSet<>(FACE)));
        for (Class<?> type : allClasses()) {
            for (Method method : type.getDeclaredMethods()) {
                boolean ofFace = type == NetShape.class && Modifier.isPublic(method.getModifiers());
                CHECK.holds(method + " does not bear a name of the face", ofFace || !names.contains(method.getName()));
            }
        }
        Constructor<?>[] constructors = NetShape.class.getDeclaredConstructors();
        CHECK.due("constructors", constructors.length, 1);
        CHECK.due("its parameters", constructors[0].getParameterCount(), 0);
        CHECK.holds("it is public", Modifier.isPublic(constructors[0].getModifiers()));
    }

    private static void fields() {
        TreeSet<String> open = new TreeSet<>();
        for (Class<?> type : allClasses()) {
            int own = 0;
            for (Field field : type.getDeclaredFields()) {
                int mods = field.getModifiers();
                if (Modifier.isStatic(mods)) {
                    CHECK.holds(field + " is a constant", Modifier.isFinal(mods) && field.getType() == int.class);
                } else {
                    own++;
                }
                if (!Modifier.isPrivate(mods)) {
                    open.add(field.getName());
                }
            }
            CHECK.holds(type + " has at most twenty fields", own <= 20);
        }
        CHECK.holds("open fields are the document's constants",
                open.equals(new TreeSet<>(List.of("NONE", "BAD", "TWICE", "WRONG", "FULL", "NOT"))));
    }

    private static List<Class<?>> allClasses() {
        List<Class<?>> all = new ArrayList<>(List.of(NetShape.class.getDeclaredClasses()));
        all.add(NetShape.class);
        return all;
    }

    private static void classesInside() {
        Class<?>[] inside = NetShape.class.getDeclaredClasses();
        CHECK.holds("at most twelve classes", inside.length < 12);
        for (Class<?> type : inside) {
            CHECK.holds(type + " is static", Modifier.isStatic(type.getModifiers()));
            CHECK.holds(type + " is not open", !Modifier.isPublic(type.getModifiers())
                    && !Modifier.isProtected(type.getModifiers()));
            CHECK.due(type + " has classes inside", type.getDeclaredClasses().length, 0);
        }
    }

    private static void methods() {
        for (Class<?> type : allClasses()) {
            for (Method method : type.getDeclaredMethods()) {
                CHECK.holds(method + " takes at most seven", method.getParameterCount() <= 7);
                CHECK.holds(method + " is written, not made", !method.isSynthetic());
            }
        }
    }

    /** Rule 3: numbers, rows of numbers, and the program's own classes. */
    private static void types() {
        for (Class<?> type : allClasses()) {
            for (Field field : type.getDeclaredFields()) {
                CHECK.holds(field + " is of a type that is left", isLeft(field.getType()));
            }
            for (Method method : type.getDeclaredMethods()) {
                Class<?> answer = method.getReturnType();
                CHECK.holds(method + " answers such a type", answer == void.class || isLeft(answer));
                for (Class<?> parameter : method.getParameterTypes()) {
                    CHECK.holds(method + " takes such types", isLeft(parameter));
                }
            }
        }
    }

    private static boolean isLeft(Class<?> type) {
        return type == int.class || type == boolean.class || type == int[].class || allClasses().contains(type);
    }

    /** Rule 9: each loop counts one up from its start against a bound that stands in its head. */
    private static void loops(String code) {
        Matcher loop = Pattern.compile("\\bfor \\((.*)\\) \\{").matcher(code);
        int seen = 0;
        while (loop.find()) {
            seen++;
            CHECK.holds("the end of the loop is seen: " + loop.group(1),
                    loop.group(1).matches("int (\\w+) = [^;]*; [^;]*\\b\\1\\b[^;<]* <=? [^;]*; \\1\\+\\+"));
        }
        CHECK.due("all loops are seen", seen, code.split("\\bfor\\b").length - 1);
        CHECK.holds("no do", !Pattern.compile("\\bdo\\b").matcher(code).find());
    }

    /** Rule 12: all that is made is made with the object, in fields and in its constructor. */
    private static void makings(String code) {
        String constructor = code.substring(code.indexOf("public NetShape() {"), code.indexOf("public int hop"));
        for (String line : code.split("\n")) {
            boolean makes = Pattern.compile("\\bnew\\b").matcher(line).find();
            boolean field = line.matches(" {8}private final int\\[\\] \\w+ = new int\\[.*\\];");
            CHECK.holds("made with the object: " + line, !makes || field || constructor.contains(line));
        }
        CHECK.holds("no array that grows or is copied", !code.contains("clone") && !code.contains("copyOf"));
    }

    private static void words(String code) {
        for (String word : List.of("throw", "throws", "try", "catch", "finally", "synchronized", "assert",
                "instanceof", "protected", "hashCode", "toString", "Object", "Random", "System", "Thread",
                "double", "float", "package", "var", "native", "volatile", "transient", "yield")) {
            CHECK.holds("no " + word, !Pattern.compile("\\b" + word + "\\b").matcher(code).find());
        }
        CHECK.holds("no lambda, no method reference", !code.contains("->") && !code.contains("::"));
        CHECK.holds("no text", code.indexOf('"') < 0);
        CHECK.holds("plain signs alone", code.chars().allMatch(sign -> sign == '\n' || sign >= 32 && sign < 127));
        CHECK.holds("no while", !Pattern.compile("\\bwhile\\b").matcher(code).find());
    }

    private static void library(String code) {
        Matcher imports = Pattern.compile("import ([^;]*);").matcher(code);
        while (imports.find()) {
            CHECK.holds("import " + imports.group(1), imports.group(1).equals("java.util.Arrays"));
        }
        Matcher calls = Pattern.compile("\\b(Integer|Long|Math|Arrays|System|String)\\.(\\w+)").matcher(code);
        while (calls.find()) {
            CHECK.holds("call of " + calls.group(),
                    List.of("Integer.bitCount", "Math.min", "Math.max", "Arrays.fill").contains(calls.group()));
        }
    }

    /** Methods of one name in several classes are taken as one, which can only make it look deeper. */
    private static void callDepths(String code) {
        Map<String, StringBuilder> bodies = new TreeMap<>();
        String at = null;
        for (String line : code.split("\n")) {
            Matcher head = Pattern.compile("^(?: {4}| {8})[\\w ]*\\b(\\w+)\\(.*\\) \\{$").matcher(line);
            if (head.find()) {
                at = head.group(1);
                bodies.putIfAbsent(at, new StringBuilder());
            } else if (at != null) {
                bodies.get(at).append(line).append('\n');
            }
        }
        for (String name : bodies.keySet()) {
            CHECK.holds(name + " goes at most eight deep", depth(bodies, name, 1) <= 8);
        }
        CHECK.holds("the methods are seen", bodies.size() > 50);
    }

    private static int depth(Map<String, StringBuilder> bodies, String name, int above) {
        int deepest = 1;
        for (String other : bodies.keySet()) {
            boolean calls = Pattern.compile("\\b" + other + "\\(").matcher(bodies.get(name)).find();
            if (calls && !other.equals(name) && above < 20) {
                deepest = Math.max(deepest, 1 + depth(bodies, other, above + 1));
            }
        }
        return deepest;
    }

    /** Rule 11: what ends at the depth where a method began is that method; a class's end has none. */
    private static void methodLengths(String code) {
        int start = -1;
        int seen = 0;
        String[] lines = code.split("\n");
        for (int i = 0; i < lines.length; i++) {
            if (lines[i].matches("( {4}| {8})\\w.*\\) \\{") && !lines[i].matches(" {8}(if|for|switch) .*")) {
                start = i;
            } else if (start >= 0 && lines[i].equals(lines[start].replaceAll("\\S.*", "") + "}")) {
                CHECK.holds("the method is short: " + lines[start], i - start <= 60);
                start = -1;
                seen++;
            }
        }
        CHECK.holds("the methods' ends are seen", seen > 80);
    }
}
