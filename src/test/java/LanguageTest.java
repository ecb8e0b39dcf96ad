import java.io.IOException;
import java.lang.reflect.Constructor;
import java.lang.reflect.Field;
import java.lang.reflect.Method;
import java.lang.reflect.Modifier;
import java.nio.file.Files;
import java.nio.file.Path;
import java.util.ArrayList;
import java.util.Arrays;
import java.util.List;
import java.util.Set;
import java.util.TreeSet;
import java.util.regex.Matcher;
import java.util.regex.Pattern;

/**
 * The face of the document, what of ../shared/LANGUAGE.md can be seen from outside, and that no call
 * makes an object. It is run from the project's own folder.
 */
public final class LanguageTest {
    private static final Check CHECK = new Check();
    private static final int FACE = 1;

    public static void main(String[] args) throws Exception {
        face();
        classes();
        words();
        methods();
        room();
        CHECK.end("LanguageTest");
    }

    /** The document's face, line by line, against what the class shows. */
    private static void face() throws IOException {
        String doc = Files.readString(Path.of("../shared/DOC.md"));
        Matcher block = Pattern.compile("```java\npublic final class FewEnds \\{\n(.*?)\\}\n```", Pattern.DOTALL)
            .matcher(doc);
        CHECK.due(FACE, "the document has a face", block.find(), true);
        Set<String> due = new TreeSet<>();
        for (String line : block.group(1).split("\n")) {
            due.add(line.trim().replaceAll("\\b(int|long) \\w+(?=[,)])", "$1").replaceAll(" = -1;|;", ""));
        }
        Set<String> got = new TreeSet<>();
        for (Method m : FewEnds.class.getDeclaredMethods()) {
            if (!Modifier.isPrivate(m.getModifiers())) {
                got.add(Modifier.toString(m.getModifiers()) + " " + m.getReturnType() + " " + m.getName()
                    + types(m.getParameterTypes()));
            }
        }
        for (Field f : FewEnds.class.getDeclaredFields()) {
            if (!Modifier.isPrivate(f.getModifiers())) {
                got.add(Modifier.toString(f.getModifiers()) + " " + f.getType() + " " + f.getName());
            }
        }
        for (Constructor<?> c : FewEnds.class.getDeclaredConstructors()) {
            got.add(Modifier.toString(c.getModifiers()) + " FewEnds" + types(c.getParameterTypes()));
        }
        for (String one : due) {
            CHECK.due(FACE, "the face has " + one, got.contains(one), true);
        }
        CHECK.due(FACE, "the face has no more: " + got, got.size(), due.size());
        CHECK.due(FACE, "final", Modifier.isFinal(FewEnds.class.getModifiers()), true);
    }

    private static String types(Class<?>[] types) {
        List<String> names = new ArrayList<>();
        for (Class<?> type : types) {
            names.add(type.getName());
        }
        return "(" + String.join(", ", names) + ")";
    }

    private static void classes() {
        Class<?>[] inside = FewEnds.class.getDeclaredClasses();
        CHECK.due(FACE, "at most twelve classes", inside.length + 1 <= 12, true);
        Set<String> names = new TreeSet<>();
        for (Method m : FewEnds.class.getDeclaredMethods()) {
            if (Modifier.isPublic(m.getModifiers())) {
                names.add(m.getName());
            }
        }
        List<Class<?>> all = new ArrayList<>(List.of(inside));
        all.add(FewEnds.class);
        for (Class<?> one : all) {
            int fields = 0;
            for (Field f : one.getDeclaredFields()) {
                boolean isStatic = Modifier.isStatic(f.getModifiers());
                fields += isStatic ? 0 : 1;
                CHECK.due(FACE, f + " is no state", !isStatic || Modifier.isFinal(f.getModifiers()), true);
            }
            CHECK.due(FACE, "at most twenty fields in " + one, fields <= 20, true);
            for (Method m : one.getDeclaredMethods()) {
                boolean named = !Modifier.isPublic(m.getModifiers()) && names.contains(m.getName());
                CHECK.due(FACE, m + " bears the name of a public one", named, false);
                CHECK.due(FACE, m + " takes at most seven", m.getParameterCount() <= 7, true);
            }
            if (one != FewEnds.class) {
                int how = one.getModifiers();
                CHECK.due(FACE, one + " is static and not public",
                    Modifier.isStatic(how) && !Modifier.isPublic(how) && !Modifier.isProtected(how), true);
            }
        }
    }

    private static String source() throws IOException {
        return Files.readString(Path.of("src/main/java/FewEnds.java"));
    }

    private static void words() throws IOException {
        String bare = source().replaceAll("(?s)/\\*.*?\\*/", " ").replaceAll("//[^\n]*", " ")
            .replaceAll("\"[^\"\n]*\"", "\"\"").replaceAll("'.'", "' '");
        for (String word : "throw throws try catch finally synchronized assert float double volatile transient native"
            .split(" ")) {
            CHECK.due(FACE, "the word " + word, Pattern.compile("\\b" + word + "\\b").matcher(bare).find(), false);
        }
        for (String sign : new String[] {"->", "::", "Exact(", "System.out", "hashCode", "getClass", ".class", "@",
            "Integer.", "Object"}) {
            CHECK.due(FACE, "the sign " + sign, bare.contains(sign), false);
        }
        Matcher imports = Pattern.compile("import ([\\w.]+);").matcher(bare);
        while (imports.find()) {
            CHECK.due(FACE, "import " + imports.group(1),
                Set.of("java.util.Arrays", "java.util.ArrayList", "java.util.List").contains(imports.group(1)), true);
        }
        Set<String> library = new TreeSet<>();
        Matcher uses = Pattern.compile("\\b(System|Arrays|Math|Long)\\.(\\w+)").matcher(bare);
        while (uses.find()) {
            library.add(uses.group());
        }
        library.removeAll(Set.of("System.arraycopy", "Arrays.fill", "Math.min", "Math.max", "Math.abs"));
        CHECK.due(FACE, "other uses of the library " + library, library.size(), 0);
    }

    /** No method is longer than sixty lines. */
    private static void methods() throws IOException {
        String[] lines = source().split("\n");
        Pattern head = Pattern.compile("^( {4}| {8})((public|private|static) )*[\\w\\[\\]]+( \\w+)?\\(.*\\) \\{$");
        int longest = 0;
        int many = 0;
        for (int k = 0; k < lines.length; k++) {
            Matcher m = head.matcher(lines[k]);
            if (m.matches()) {
                int end = k;
                while (!lines[end].equals(m.group(1) + "}")) {
                    end++;
                }
                longest = Math.max(longest, end - k + 1);
                many++;
            }
        }
        CHECK.due(FACE, "methods that were found", many > 150, true);
        CHECK.due(FACE, "the longest method of at most 60 lines", longest <= 60, true);
    }

    /** All calls of one run live in one room, so no call makes an object. */
    private static void room() throws Exception {
        com.sun.management.ThreadMXBean bean =
            (com.sun.management.ThreadMXBean) java.lang.management.ManagementFactory.getThreadMXBean();
        FewEnds x = Check.knitted(ChartTest.THERE);
        long thread = Thread.currentThread().getId();
        calls(x);
        long before = bean.getThreadAllocatedBytes(thread);
        for (int k = 0; k < 100; k++) {
            calls(x);
        }
        long made = bean.getThreadAllocatedBytes(thread) - before;
        CHECK.due(FACE, "calls make objects: " + made + " bytes in 100 rounds", made < 10000, true);
    }

    private static final int[] TEXT = texts();

    private static int[] texts() {
        byte[] bytes = Arrays.copyOf(ChartTest.THERE.getBytes(java.nio.charset.StandardCharsets.ISO_8859_1), 160);
        byte[] steps = Arrays.copyOf("loop 1;knit w 1;knit b 2;knit w 2;cut b;knit b 1;end;"
            .getBytes(java.nio.charset.StandardCharsets.ISO_8859_1), 60);
        int[] fours = new int[55];
        for (int k = 0; k < 40; k++) {
            fours[k] = java.nio.ByteBuffer.wrap(bytes, 4 * k, 4).getInt();
        }
        for (int k = 0; k < 15; k++) {
            fours[40 + k] = java.nio.ByteBuffer.wrap(steps, 4 * k, 4).getInt();
        }
        return fours;
    }

    private static void feed(FewEnds x, int from, int to) {
        for (int k = from; k < to; k += 5) {
            x.feed(TEXT[k], TEXT[k + 1], TEXT[k + 2], TEXT[k + 3], TEXT[k + 4]);
        }
    }

    private static void calls(FewEnds x) {
        feed(x, 0, 40);
        x.chart(ChartTest.THERE.length());
        feed(x, 40, 55);
        x.directions(53);
        feed(x, 40, 55);
        x.chart(20);
        x.tray(0, 0, 60);
        x.write(0, 1, 3);
        x.pour(0, 0, 0, 1, 5);
        x.plan(0, 1);
        x.mark();
        x.follow();
        x.take();
        for (int k = -1; k < 9; k++) {
            oneByOne(x, k);
        }
        x.planCost();
        x.longest();
        x.gap();
        x.worth();
        x.other();
        x.few(4);
        x.sewn();
        x.sewnCost();
        x.thickest();
        x.mirrored();
        x.mirrorLeast();
        x.matched();
        x.plain();
        x.tidy();
        x.fill();
        x.window(0, 2, 0, 1);
        x.back();
        x.clear();
    }

    private static void oneByOne(FewEnds x, int k) {
        x.read(0, k);
        x.fault(k);
        x.told(k);
        x.colour(k, k);
        x.stitch(k, 0);
        x.at(k, 1);
        x.lawful(0, k);
        x.cost(0, k);
        x.yarnOf(0, k);
        x.link(k, k + 1);
        x.goes(k);
        x.comes(k);
        x.threads(k);
        x.thread(k, 4);
        x.hangs(k);
        x.tangle(k);
        x.yarn(k);
        x.least(k);
        x.fewest(k);
        x.rowAlone(k);
        x.saves(k, 0);
        x.best(k);
        x.fewAt(k, 0);
        x.patches(k);
        x.patch(k, 0);
        x.machine(k);
        x.lessened(0, k);
        x.behind(k);
        x.lasts(k, 9);
        x.seam(k);
        x.buy(k, 9);
        x.runsOut(k);
        x.followed(k);
        x.unlink(k);
    }
}
