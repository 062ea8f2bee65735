import java.io.File;
import java.io.IOException;
import java.lang.reflect.Method;
import java.lang.reflect.Modifier;
import java.net.URL;
import java.net.URLClassLoader;
import java.nio.file.Files;
import java.nio.file.Path;
import java.util.ArrayList;
import java.util.List;
import java.util.Set;
import java.util.TreeSet;
import java.util.regex.Matcher;
import java.util.regex.Pattern;
import javax.tools.ToolProvider;

/** What README.md says is tried: the answers it tells, its table of what is refused, and its commands. */
public final class ReadmeTest {
    private static final Path README = Path.of("README.md");
    private static final String CLASSES = "/tmp/thanks-by-post";
    private static final Pattern ANSWER = Pattern.compile("((?:int|long|boolean) (\\w+) = )?(.+?);\\s+// (-?\\d+|true|false)\\b.*");
    private static final Pattern CALL = Pattern.compile("\\bcity\\.(\\w+)\\(");
    private static final Pattern ROW = Pattern.compile("\\| (-?\\d+|false)\\b[^|]*\\|([^|]+)\\|");
    private static final Set<String> NEVER_WRONG = Set.of("feed", "text", "rule", "twice", "image", "back");

    private static List<String> lines;
    private static final Set<String> shown = new TreeSet<>();

    public static void main(String[] args) throws Exception {
        lines = Files.readAllLines(README);
        answers();
        refused();
        commands();
        Checks.end();
    }

    /** The blocks of one kind, each with the number of its first line, from 1. */
    private static List<List<String>> blocks(String kind) {
        List<List<String>> all = new ArrayList<>();
        List<String> in = null;
        for (String line : lines) {
            if (line.startsWith("```")) {
                boolean begins = in == null && line.equals("```" + kind);
                in = begins ? new ArrayList<>() : null;
                if (begins) all.add(in);
            } else if (in != null) {
                in.add(line);
            }
        }
        return all;
    }

    private static Set<String> face() {
        Set<String> names = new TreeSet<>();
        for (Method m : ThanksByPost.class.getDeclaredMethods()) {
            if (Modifier.isPublic(m.getModifiers())) names.add(m.getName());
        }
        return names;
    }

    // ---- answers

    private static void answers() throws Exception {
        Checks.at("README, answers");
        StringBuilder run = new StringBuilder();
        StringBuilder helpers = new StringBuilder();
        for (List<String> block : blocks("java")) {
            boolean helper = block.get(0).startsWith("static ");
            for (String line : block) {
                if (helper) helpers.append(line).append('\n');
                else run.append(tried(line)).append('\n');
            }
        }
        Class<?> made = compiled("public final class Tried {\n"
            + "public static int count = 0;\n"
            + "public static final java.util.List<String> wrong = new java.util.ArrayList<>();\n"
            + "static void due(String line, long want, long got) { count++; if (want != got) wrong.add(line + \" | \" + got); }\n"
            + "static void due(String line, boolean want, boolean got) { count++; if (want != got) wrong.add(line + \" | \" + got); }\n"
            + helpers + "public static void main(String[] args) {\n" + run + "}\n}\n");
        made.getMethod("main", String[].class).invoke(null, (Object) new String[0]);
        for (Object wrong : (List<?>) made.getField("wrong").get(null)) Checks.due("" + wrong, 0, 1);
        Checks.yes("answers are told", made.getField("count").getInt(null) > 80);
        Checks.yes("all calls are shown: " + shown, shown.equals(face()));
    }

    /** A line as it is, or where it tells an answer, one that looks whether it is so. */
    private static String tried(String line) {
        Matcher call = CALL.matcher(line);
        while (call.find()) shown.add(call.group(1));
        Matcher m = ANSWER.matcher(line);
        if (!m.matches()) {
            Checks.no("no answer is told: " + line, line.contains("city."));
            return line;
        }
        String told = "due(\"" + line.replace("\\", "\\\\").replace("\"", "\\\"") + "\", " + m.group(4) + ", ";
        return m.group(1) == null ? told + m.group(3) + ");" : m.group(1) + m.group(3) + "; " + told + m.group(2) + ");";
    }

    private static Class<?> compiled(String source) throws Exception {
        Path dir = Files.createTempDirectory("readme");
        Path file = dir.resolve("Tried.java");
        Files.writeString(file, source);
        int code = ToolProvider.getSystemJavaCompiler().run(null, null, null, "-encoding", "UTF-8", "-d", dir.toString(),
            "-cp", System.getProperty("java.class.path"), file.toString());
        Checks.due("README's Java compiles", 0, code);
        if (code != 0) Checks.end();
        Class<?> made = new URLClassLoader(new URL[] {dir.toUri().toURL()}).loadClass("Tried");
        made.getMethods();
        empty(dir);
        return made;
    }

    private static void empty(Path dir) throws IOException {
        for (File f : dir.toFile().listFiles()) Files.delete(f.toPath());
        Files.delete(dir);
    }

    // ---- what is refused

    private static void refused() throws Exception {
        Checks.at("README, what is answered for anything else");
        Set<String> named = new TreeSet<>(NEVER_WRONG);
        for (String line : lines) {
            Matcher row = ROW.matcher(line);
            if (!row.matches()) continue;
            Matcher name = Pattern.compile("`(\\w+)`").matcher(row.group(2));
            while (name.find()) {
                Checks.yes(name.group(1) + " stands once", named.add(name.group(1)));
                refused(name.group(1), row.group(1));
            }
        }
        Checks.yes("all calls are named: " + named, named.equals(face()));
        String besides = String.join(" ", lines);
        for (String name : NEVER_WRONG) Checks.yes(name + " is named besides", besides.contains("`" + name + "`"));
    }

    private static void refused(String call, String want) throws Exception {
        for (Method m : ThanksByPost.class.getDeclaredMethods()) {
            if (!m.getName().equals(call)) continue;
            for (int number : new int[] {Integer.MIN_VALUE, Integer.MAX_VALUE}) {
                Object[] args = new Object[m.getParameterCount()];
                for (int i = 0; i < args.length; i++) {
                    args[i] = m.getParameterTypes()[i] == boolean.class ? (Object) true : (Object) number;
                }
                Object got = m.invoke(new ThanksByPost(), args);
                Checks.yes(call + " answers " + got + ", README says " + want, want.equals(got.toString()));
            }
        }
    }

    // ---- commands

    private static void commands() throws Exception {
        Checks.at("README, how to run the tests");
        List<List<String>> blocks = blocks("sh");
        Checks.due("blocks of commands", 2, blocks.size());
        // This test is one of those that .ci/run runs, so it can't run it in turn.
        Checks.yes("all of them", blocks.get(0).equals(List.of("bash .ci/run")));
        Checks.yes(".ci/run can be run", Files.isExecutable(Path.of(".ci/run")));
        String one = String.join("\n", blocks.get(1));
        Checks.yes("they say where the classes are put", one.contains(CLASSES));
        // A place of its own, so that what is there of another run is neither used nor in the way.
        Path dir = Files.createTempDirectory("readme");
        Checks.due("one alone", 0, exitCode(one.replace(CLASSES, dir.toString())));
        empty(dir);
    }

    private static int exitCode(String commands) throws IOException, InterruptedException {
        Process bash = new ProcessBuilder("bash", "-e", "-c", commands).redirectErrorStream(true).start();
        String out = new String(bash.getInputStream().readAllBytes());
        int code = bash.waitFor();
        if (code != 0) System.out.println(out);
        return code;
    }
}
