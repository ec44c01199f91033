import java.io.File;
import java.io.IOException;
import java.lang.reflect.Field;
import java.lang.reflect.Method;
import java.lang.reflect.Modifier;
import java.nio.file.Files;
import java.nio.file.Path;
import java.util.ArrayList;
import java.util.List;
import java.util.TreeSet;
import java.util.regex.Matcher;
import java.util.regex.Pattern;

/** What README.md says of how to use the class and how to run its tests holds as it is written. */
public final class ReadmeTest {
    private static final Check CHECK = new Check("ReadmeTest");
    private static final Pattern CALL = Pattern.compile("x\\.(\\w+)\\(([^()]*)\\);");

    public static void main(String[] args) throws Exception {
        String readme = Files.readString(Path.of("README.md"));
        example(readme);
        calls(readme);
        refusals();
        constants(readme);
        tests(readme);
        commands(readme);
        CHECK.close();
    }

    /** The lines between a fence of this kind and the next one, of all such blocks. */
    private static List<List<String>> blocks(String readme, String kind) {
        List<List<String>> all = new ArrayList<>();
        Matcher block = Pattern.compile("(?s)```" + kind + "\n(.*?)```\n").matcher(readme);
        while (block.find()) {
            all.add(List.of(block.group(1).split("\n")));
        }
        return all;
    }

    /** Each line of the example is run, and its last call answers the number that its remark begins with. */
    private static void example(String readme) throws ReflectiveOperationException {
        List<List<String>> examples = blocks(readme, "java");
        CHECK.due("examples", examples.size(), 1);
        List<String> lines = examples.get(0);
        CHECK.same("the first line", lines.get(0), "NetShape x = new NetShape();");
        NetShape x = new NetShape();
        TreeSet<String> used = new TreeSet<>();
        for (String line : lines.subList(1, lines.size())) {
            Matcher parts = Pattern.compile("((?:x\\.\\w+\\([^()]*\\);\\s+)+)// (-?\\d+)\\b.*").matcher(line);
            CHECK.holds("calls and an answer: " + line, parts.matches());
            if (parts.matches()) {
                CHECK.due(line, answer(x, parts.group(1), used), Integer.parseInt(parts.group(2)));
            }
        }
        CHECK.same("calls of the example", used.toString(), face().toString());
    }

    private static int answer(NetShape x, String calls, TreeSet<String> used) throws ReflectiveOperationException {
        int last = 0;
        Matcher call = CALL.matcher(calls);
        while (call.find()) {
            String[] texts = call.group(2).isEmpty() ? new String[0] : call.group(2).split(", ");
            last = (Integer) method(call.group(1)).invoke(x, values(texts));
            used.add(call.group(1));
        }
        return last;
    }

    private static Object[] values(String[] texts) {
        Object[] values = new Object[texts.length];
        for (int i = 0; i < texts.length; i++) {
            boolean truth = texts[i].equals("true") || texts[i].equals("false");
            values[i] = truth ? (Object) Boolean.valueOf(texts[i]) : (Object) Integer.valueOf(texts[i]);
        }
        return values;
    }

    private static Method method(String name) {
        for (Method method : NetShape.class.getDeclaredMethods()) {
            if (method.getName().equals(name)) {
                return method;
            }
        }
        throw new IllegalStateException("README.md calls " + name + ", which is not there");
    }

    private static TreeSet<String> face() {
        TreeSet<String> names = new TreeSet<>();
        for (Method method : NetShape.class.getDeclaredMethods()) {
            if (Modifier.isPublic(method.getModifiers())) {
                names.add(method.getName());
            }
        }
        return names;
    }

    /** The table has each call of the face once, with its parameters, by the numbers of the promises. */
    private static void calls(String readme) {
        Matcher row = Pattern.compile("(?m)^\\| `(?:new )?(\\w+)\\(([^()]*)\\)` \\|.*\\| (\\d+) \\|$").matcher(readme);
        TreeSet<String> names = new TreeSet<>();
        int rows = 0;
        while (row.find()) {
            rows++;
            CHECK.due("promise of " + row.group(1), Integer.parseInt(row.group(3)), rows);
            if (rows > 1) {
                names.add(row.group(1));
                int parameters = row.group(2).isEmpty() ? 0 : row.group(2).split(", ").length;
                CHECK.due("parameters of " + row.group(1), method(row.group(1)).getParameterCount(), parameters);
            }
        }
        CHECK.due("calls in the table", rows, 17);
        CHECK.same("calls in the table", names.toString(), face().toString());
    }

    /** Where two refusals fit, the table's first is answered. */
    private static void refusals() {
        NetShape x = Rig.of("012345", "0123", "01", "12", "23", "34");
        Rig.hand(x, "012345");
        CHECK.due("hop: BAD ahead of FULL", x.hop(6), NetShape.BAD);
        CHECK.due("hop: TWICE ahead of FULL", x.hop(0), NetShape.TWICE);
        CHECK.due("hop: FULL", x.hop(-1), NetShape.FULL);
        x.drop();
        CHECK.due("trace: FULL ahead of NOT", x.trace(), NetShape.FULL);
        CHECK.due("tell", x.tell(0, 1, true), 1);
        CHECK.due("shape: BAD ahead of NOT", x.shape(2), NetShape.BAD);
        CHECK.due("boxOf: NOT ahead of BAD", x.boxOf(-1, -1), NetShape.NOT);
        CHECK.due("far: NOT ahead of BAD", x.far(-1, -1, -1), NetShape.NOT);
        CHECK.due("sure: NOT ahead of BAD", x.sure(-1, -1), NetShape.NOT);
    }

    private static void constants(String readme) throws IllegalAccessException {
        for (Field field : NetShape.class.getDeclaredFields()) {
            if (Modifier.isPublic(field.getModifiers())) {
                String told = "`" + field.getName() + "` (" + field.getInt(null) + ")";
                CHECK.holds("README.md has " + told, readme.contains(told));
            }
        }
    }

    /** The tests that the page lists are those that are there, and so are the files that they share. */
    private static void tests(String readme) throws IOException {
        TreeSet<String> listed = new TreeSet<>();
        Matcher item = Pattern.compile("(?m)^- `(\\w+)`: ").matcher(readme);
        while (item.find()) {
            CHECK.holds(item.group(1) + " is listed once", listed.add(item.group(1)));
        }
        Matcher shared = Pattern.compile("(?m)^`.*are what these tests share\\.$").matcher(readme);
        if (shared.find()) {
            Matcher name = Pattern.compile("`(\\w+)`").matcher(shared.group());
            while (name.find()) {
                listed.add(name.group(1));
            }
        }
        TreeSet<String> there = new TreeSet<>();
        for (File file : new File("src/test/java").listFiles()) {
            there.add(file.getName().replace(".java", ""));
        }
        CHECK.same("files under src/test/java", listed.toString(), there.toString());
    }

    /** The page's commands run as they stand there; .ci/run is what runs this test, so it is only looked for. */
    private static void commands(String readme) throws IOException, InterruptedException {
        List<List<String>> blocks = blocks(readme, "sh");
        CHECK.due("blocks of commands", blocks.size(), 2);
        CHECK.same("the first", blocks.get(0).toString(), "[.ci/run]");
        CHECK.holds(".ci/run can be run", Files.isExecutable(Path.of(".ci/run")));
        Path said = Files.createTempFile("readme", ".txt");
        Process shell = new ProcessBuilder("sh", "-e", "-c", String.join("\n", blocks.get(1)))
                .redirectErrorStream(true).redirectOutput(said.toFile()).start();
        CHECK.due("the second ends with", shell.waitFor(), 0);
        String output = Files.readString(said);
        for (String name : List.of("PromiseTest", "ModelTest", "HiddenNetTest")) {
            CHECK.holds(name + " ran: " + output, output.contains(name + ": ") && output.contains(", 0 not"));
        }
        Files.delete(said);
    }
}
