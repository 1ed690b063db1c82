import java.io.ByteArrayOutputStream;
import java.io.IOException;
import java.io.OutputStream;
import java.io.Writer;
import java.net.URI;
import java.nio.file.Files;
import java.nio.file.Path;
import java.util.ArrayList;
import java.util.HashMap;
import java.util.List;
import java.util.Map;
import java.util.Set;
import java.util.TreeSet;
import javax.tools.FileObject;
import javax.tools.ForwardingJavaFileManager;
import javax.tools.JavaCompiler;
import javax.tools.JavaFileManager;
import javax.tools.JavaFileObject;
import javax.tools.SimpleJavaFileObject;
import javax.tools.ToolProvider;

/**
 * Whether the test of each sentence fails if that sentence is broken: src/test/breaks.txt tells how the
 * class can be changed so that one sentence does not hold, and each time its test must find that. A change
 * that does not fit the class any more is told, but is no fault: how the class is written is free.
 */
public final class BreaksTest {
    private static final Path CLASS = Path.of("src/main/java/HillSlices.java");
    private static final Path BREAKS = Path.of("src/test/breaks.txt");
    private static final String[] TESTS = {"RefusedSentencesTest", "HillSentencesTest", "CutsSentencesTest",
        "WaysSentencesTest", "FencesSentencesTest"};
    private static final Due DUE = new Due("BreaksTest");

    private final List<String> source;
    private final JavaCompiler compiler = ToolProvider.getSystemJavaCompiler();
    /** By sentence: the class that has its test. */
    private final Map<String, String> testOf = new HashMap<>();
    private final Set<String> unbroken = new TreeSet<>();
    private int misfits;

    private BreaksTest(List<String> source) throws ReflectiveOperationException {
        this.source = source;
        for (String test : TESTS) {
            for (String sentence : told(new Loader(Map.of()), test, "sentences")) {
                testOf.put(sentence, test);
            }
        }
        unbroken.addAll(testOf.keySet());
    }

    public static void main(String[] args) throws IOException, ReflectiveOperationException {
        List<String> source = new ArrayList<>();
        for (String line : Files.readAllLines(CLASS)) {
            source.add(line.trim());
        }
        BreaksTest test = new BreaksTest(source);
        for (Break one : Break.readAll(Files.readAllLines(BREAKS))) {
            test.tryOut(one);
        }
        for (String sentence : test.unbroken) {
            DUE.is("breaks of: " + sentence, 0, 1);
        }
        System.out.println("BreaksTest: " + test.misfits + " changes do not fit the class as it is");
        DUE.end();
    }

    /** What a class of tests tells of its sentences, as it finds the class under test by a loader. */
    private static Set<String> told(Loader loader, String test, String which) throws ReflectiveOperationException {
        var tests = loader.loadClass(test).getDeclaredMethod("tests");
        tests.setAccessible(true);
        Object due = tests.invoke(null);
        var method = due.getClass().getDeclaredMethod(which);
        method.setAccessible(true);
        Set<String> sentences = new TreeSet<>();
        for (Object sentence : (Set<?>) method.invoke(due)) {
            sentences.add((String) sentence);
        }
        return sentences;
    }

    private void tryOut(Break one) throws IOException, ReflectiveOperationException {
        String test = testOf.get(one.sentence);
        unbroken.remove(one.sentence);
        DUE.is(one.name() + ": tests of this sentence", test == null ? 0 : 1, 1);
        List<String> broken = one.madeIn(source);
        Map<String, byte[]> classes = broken == null ? Map.of() : compile(String.join("\n", broken));
        if (classes.isEmpty()) {
            misfits++;
            System.out.println("BreaksTest: does not fit: " + one.name());
        }
        if (test == null || classes.isEmpty()) {
            return;
        }
        boolean found = told(new Loader(classes), test, "wrongSentences").contains(one.sentence);
        DUE.is(one.name() + ": whether its test finds it", found ? 1 : 0, 1);
    }

    /** The classes of a text; none if it is no class. */
    private Map<String, byte[]> compile(String text) throws IOException {
        Map<String, ByteArrayOutputStream> made = new HashMap<>();
        try (var standard = compiler.getStandardFileManager(null, null, null)) {
            JavaFileManager manager = new Memory(standard, made);
            var task = compiler.getTask(Writer.nullWriter(), manager, null, List.of("-proc:none"), null, List.of(new Text(text)));
            if (!task.call()) {
                return Map.of();
            }
        }
        Map<String, byte[]> classes = new HashMap<>();
        made.forEach((name, bytes) -> classes.put(name, bytes.toByteArray()));
        return classes;
    }

    /** One way to break a sentence. */
    private static final class Break {
        private final int line;
        private final String sentence;
        private final List<List<String>> places = new ArrayList<>();

        private Break(int line, String sentence) {
            this.line = line;
            this.sentence = sentence;
            places.add(new ArrayList<>());
        }

        static List<Break> readAll(List<String> lines) {
            List<Break> all = new ArrayList<>();
            Break last = null;
            for (int i = 0; i < lines.size(); i++) {
                String line = lines.get(i);
                if (line.startsWith("= ")) {
                    last = new Break(i + 1, line.substring(2));
                    all.add(last);
                } else if (line.isBlank()) {
                    last = null;
                } else if (last != null && line.equals("~")) {
                    last.places.add(new ArrayList<>());
                } else if (last != null) {
                    last.places.get(last.places.size() - 1).add(line);
                }
            }
            return all;
        }

        String name() {
            return BREAKS + ", line " + line + " (" + sentence + ")";
        }

        /** The lines of one place, without those that go or without those that come. */
        private static List<String> lines(List<String> place, String without) {
            List<String> lines = new ArrayList<>();
            for (String line : place) {
                if (!line.startsWith(without)) {
                    lines.add(line.substring(2).trim());
                }
            }
            return lines;
        }

        /** The class with this change; null where it does not fit once and no more. */
        List<String> madeIn(List<String> source) {
            List<String> broken = new ArrayList<>(source);
            for (List<String> place : places) {
                List<String> old = lines(place, "+");
                int begin = onlyPlaceOf(old, broken);
                if (begin < 0) {
                    return null;
                }
                List<String> there = broken.subList(begin, begin + old.size());
                there.clear();
                there.addAll(lines(place, "-"));
            }
            return broken;
        }

        private static int onlyPlaceOf(List<String> lines, List<String> source) {
            int found = -1;
            for (int i = 0; i + lines.size() <= source.size(); i++) {
                if (source.subList(i, i + lines.size()).equals(lines)) {
                    if (found >= 0) {
                        return -1;
                    }
                    found = i;
                }
            }
            return found;
        }
    }

    /** The text of the class under test. */
    private static final class Text extends SimpleJavaFileObject {
        private final String text;

        Text(String text) {
            super(URI.create("string:///HillSlices.java"), Kind.SOURCE);
            this.text = text;
        }

        @Override
        public CharSequence getCharContent(boolean ignoreEncodingErrors) {
            return text;
        }
    }

    /** Keeps compiled classes by name. */
    private static final class Memory extends ForwardingJavaFileManager<JavaFileManager> {
        private final Map<String, ByteArrayOutputStream> made;

        Memory(JavaFileManager manager, Map<String, ByteArrayOutputStream> made) {
            super(manager);
            this.made = made;
        }

        @Override
        public JavaFileObject getJavaFileForOutput(Location location, String name, JavaFileObject.Kind kind,
                FileObject sibling) {
            return new SimpleJavaFileObject(URI.create("memory:///" + name + ".class"), kind) {
                @Override
                public OutputStream openOutputStream() {
                    ByteArrayOutputStream bytes = new ByteArrayOutputStream();
                    made.put(name, bytes);
                    return bytes;
                }
            };
        }
    }

    /** Loads the tests anew, so that they find the classes that it was given instead of those on the path. */
    private static final class Loader extends ClassLoader {
        private final Map<String, byte[]> classes;

        Loader(Map<String, byte[]> classes) {
            super(BreaksTest.class.getClassLoader());
            this.classes = classes;
        }

        @Override
        protected Class<?> loadClass(String name, boolean resolve) throws ClassNotFoundException {
            boolean own = name.startsWith("HillSlices") || name.startsWith("Due") || name.contains("SentencesTest");
            if (!own) {
                return super.loadClass(name, resolve);
            }
            Class<?> loaded = findLoadedClass(name);
            return loaded != null ? loaded : define(name);
        }

        private Class<?> define(String name) throws ClassNotFoundException {
            byte[] bytes = classes.get(name);
            if (bytes == null) {
                try (var in = getParent().getResourceAsStream(name + ".class")) {
                    bytes = in == null ? null : in.readAllBytes();
                } catch (IOException unreadable) {
                    throw new ClassNotFoundException(name, unreadable);
                }
            }
            if (bytes == null) {
                throw new ClassNotFoundException(name);
            }
            return defineClass(name, bytes, 0, bytes.length);
        }
    }
}
