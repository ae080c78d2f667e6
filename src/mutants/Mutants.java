import java.io.ByteArrayOutputStream;
import java.io.IOException;
import java.io.OutputStream;
import java.io.PrintStream;
import java.io.StringWriter;
import java.net.URI;
import java.nio.file.Files;
import java.nio.file.Path;
import java.util.ArrayList;
import java.util.HashMap;
import java.util.List;
import java.util.Map;
import java.util.Set;
import java.util.concurrent.ExecutorService;
import java.util.concurrent.Executors;
import java.util.concurrent.Future;
import java.util.regex.Matcher;
import java.util.regex.Pattern;
import javax.tools.FileObject;
import javax.tools.ForwardingJavaFileManager;
import javax.tools.JavaCompiler;
import javax.tools.JavaFileManager;
import javax.tools.JavaFileObject;
import javax.tools.SimpleJavaFileObject;
import javax.tools.ToolProvider;

/** Breaks one sentence of the document at a time, and looks whether the test of just that sentence fails. */
public final class Mutants {
    private static final int MOST_MILLISECONDS = 20000;

    private record Mutant(int line, String title, String place, String old, String broken) { }

    private final String source;
    private final Path tests;

    private Mutants(String source, Path tests) {
        this.source = source;
        this.tests = tests;
    }

    /** Arguments: SkinLands.java, the list of mutants, and where the compiled tests are. */
    public static void main(String[] args) throws Exception {
        Mutants all = new Mutants(Files.readString(Path.of(args[0])), Path.of(args[2]));
        List<Mutant> mutants = read(Files.readAllLines(Path.of(args[1])));
        PrintStream out = System.out;
        // The tests print what they find wrong, which is all in order here.
        System.setOut(new PrintStream(OutputStream.nullOutputStream()));
        ExecutorService pool = Executors.newFixedThreadPool(Runtime.getRuntime().availableProcessors());
        List<Future<String>> faults = new ArrayList<>();
        for (Mutant mutant : mutants) faults.add(pool.submit(() -> all.faultOf(mutant)));
        int wrong = 0;
        for (int i = 0; i < mutants.size(); i++) {
            String fault = faults.get(i).get();
            if (fault.isEmpty()) continue;
            wrong++;
            out.println("line " + mutants.get(i).line() + ", " + mutants.get(i).title() + ": " + fault);
        }
        out.println(mutants.size() + " mutants, " + wrong + " that the test of their sentence doesn't catch");
        // One that never ends would keep the machine up.
        Runtime.getRuntime().halt(wrong == 0 ? 0 : 1);
    }

    private static List<Mutant> read(List<String> lines) {
        List<Mutant> mutants = new ArrayList<>();
        for (int i = 0; i < lines.size(); i++) {
            if (lines.get(i).isBlank() || lines.get(i).startsWith("#")) continue;
            String[] parts = lines.get(i).split(" @@ ?", -1);
            mutants.add(new Mutant(i + 1, title(parts[0], parts[1]), parts[2], parts[3], parts[4]));
        }
        return mutants;
    }

    /** As the tests tell it. */
    private static String title(String promise, String words) {
        String of = promise.equals("0") ? "Terms" : promise.equals("-1") ? "What it is" : "Promise " + promise;
        Matcher where = Pattern.compile("(.*) (\\([A-Z]+\\))").matcher(words);
        return where.matches() ? of + ", \"" + where.group(1) + "\" " + where.group(2) : of + ", \"" + words + "\"";
    }

    /** Why a mutant isn't caught, or nothing. */
    private String faultOf(Mutant mutant) throws Exception {
        int place = find(mutant.place(), 0)[1];
        int[] old = place < 0 ? new int[] {-1, -1} : find(mutant.old(), place);
        if (old[0] < 0) return "its place isn't in the source";
        Map<String, byte[]> classes = new HashMap<>();
        if (!compile(source.substring(0, old[0]) + mutant.broken() + source.substring(old[1]), classes)) {
            return "it isn't Java";
        }
        Set<String> failed = failedOn(classes);
        return failed.contains(mutant.title()) ? "" : "these tests fail: " + failed;
    }

    /** Where a text begins and ends from a place on, however it is broken into lines. */
    private int[] find(String text, int from) {
        StringBuilder pattern = new StringBuilder();
        for (String word : text.trim().split("\\s+")) {
            if (pattern.length() > 0) pattern.append("\\s+");
            pattern.append(Pattern.quote(word));
        }
        Matcher matcher = Pattern.compile(pattern.toString()).matcher(source);
        return matcher.find(from) ? new int[] {matcher.start(), matcher.end()} : new int[] {-1, -1};
    }

    private static boolean compile(String text, Map<String, byte[]> classes) {
        JavaCompiler compiler = ToolProvider.getSystemJavaCompiler();
        JavaFileObject file = new SimpleJavaFileObject(URI.create("string:///SkinLands.java"),
                JavaFileObject.Kind.SOURCE) {
            @Override
            public CharSequence getCharContent(boolean ignoreEncodingErrors) {
                return text;
            }
        };
        JavaFileManager manager = new ForwardingJavaFileManager<JavaFileManager>(
                compiler.getStandardFileManager(null, null, null)) {
            @Override
            public JavaFileObject getJavaFileForOutput(Location at, String name, JavaFileObject.Kind kind,
                    FileObject sibling) {
                return kept(name, kind, classes);
            }
        };
        return compiler.getTask(new StringWriter(), manager, found -> { }, List.of("-proc:none"), null,
                List.of(file)).call();
    }

    private static JavaFileObject kept(String name, JavaFileObject.Kind kind, Map<String, byte[]> classes) {
        return new SimpleJavaFileObject(URI.create("string:///" + name + ".class"), kind) {
            @Override
            public OutputStream openOutputStream() {
                return new ByteArrayOutputStream() {
                    @Override
                    public void close() {
                        classes.put(name, toByteArray());
                    }
                };
            }
        };
    }

    /** The titles of the tests that fail on a class; a thrown exception is told as one, too. */
    private Set<String> failedOn(Map<String, byte[]> classes) throws InterruptedException {
        List<Set<String>> failed = new ArrayList<>();
        Thread run = new Thread(() -> failed.add(run(classes)));
        run.setDaemon(true);
        run.start();
        run.join(MOST_MILLISECONDS);
        return failed.isEmpty() ? Set.of("it didn't end") : failed.get(0);
    }

    @SuppressWarnings("unchecked")
    private Set<String> run(Map<String, byte[]> classes) {
        ClassLoader loader = new ClassLoader(ClassLoader.getPlatformClassLoader()) {
            @Override
            protected Class<?> findClass(String name) throws ClassNotFoundException {
                byte[] bytes = classes.containsKey(name) ? classes.get(name) : compiledTest(name);
                return defineClass(name, bytes, 0, bytes.length);
            }
        };
        try {
            var held = loader.loadClass("EdgesTest").getDeclaredMethod("held");
            held.setAccessible(true);
            Object checks = held.invoke(null);
            var wrongParts = checks.getClass().getDeclaredMethod("wrongParts");
            wrongParts.setAccessible(true);
            return (Set<String>) wrongParts.invoke(checks);
        } catch (ReflectiveOperationException e) {
            return Set.of("thrown: " + e.getCause());
        }
    }

    private byte[] compiledTest(String name) throws ClassNotFoundException {
        try {
            return Files.readAllBytes(tests.resolve(name + ".class"));
        } catch (IOException e) {
            throw new ClassNotFoundException(name, e);
        }
    }
}
