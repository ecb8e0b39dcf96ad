import java.lang.reflect.Method;
import java.util.ArrayList;
import java.util.Arrays;
import java.util.List;
import java.util.Random;

/**
 * Runs of calls by chance (always the same ones), whose answers, STATUS and FRACTION are those of Model.
 * Arguments: how many runs, and the number of the first.
 */
public final class ModelTest {
    private static final int RUNS = 400;
    private static final int CALLS = 512;

    private final Random chance;
    private final FewEnds program = new FewEnds();
    private final Model model = new Model();
    private final List<String> log = new ArrayList<>();
    private final Method[] calls;
    private boolean wrong;

    private ModelTest(long run) {
        chance = new Random(run);
        calls = Arrays.stream(FewEnds.class.getDeclaredMethods())
            .filter(m -> java.lang.reflect.Modifier.isPublic(m.getModifiers()) && m.getParameterCount() < 6)
            .sorted((a, b) -> a.toString().compareTo(b.toString())).toArray(Method[]::new);
    }

    public static void main(String[] args) throws Exception {
        int runs = args.length > 0 ? Integer.parseInt(args[0]) : RUNS;
        int first = args.length > 1 ? Integer.parseInt(args[1]) : 1;
        long made = 0;
        for (int run = first; run < first + runs; run++) {
            ModelTest test = new ModelTest(run);
            test.run();
            made += test.log.size();
            if (test.wrong) {
                System.out.println("run " + run + " of ModelTest:");
                test.log.forEach(System.out::println);
                System.exit(1);
            }
        }
        System.out.println("ModelTest: " + made + " calls in " + runs + " runs as due");
    }

    private int any(int low, int high) {
        return low + chance.nextInt(high - low + 1);
    }

    private boolean once(int times) {
        return chance.nextInt(times) == 0;
    }

    @SafeVarargs
    private final <T> T one(T... of) {
        return of[chance.nextInt(of.length)];
    }

    // ---- calling

    private Object call(String name, Object... args) throws Exception {
        for (Method m : calls) {
            if (m.getName().equals(name)) {
                return call(m, args);
            }
        }
        throw new IllegalStateException(name);
    }

    private Object call(Method m, Object... args) throws Exception {
        Object due = Model.class.getMethod(m.getName(), m.getParameterTypes()).invoke(model, args);
        Object got = m.invoke(program, args);
        String row = m.getName() + Arrays.toString(args) + " = " + got + ", status " + program.status();
        boolean same = got.equals(due) && program.status() == model.status()
            && program.top() == model.top() && program.bottom() == model.bottom();
        log.add(same ? row : row + "  <-- due is " + due + ", status " + model.status()
            + ", fraction " + model.top() + "/" + model.bottom());
        wrong |= !same;
        return got;
    }

    private void run() throws Exception {
        boolean small = once(3);
        if (!once(8)) {
            text(chartText(small), "chart");
        }
        while (log.size() < CALLS - 60 && !wrong) {
            switch (any(0, 29)) {
                case 0:
                    text(once(2) ? spoilt(chartText(small)) : chartText(small), "chart");
                    break;
                case 1:
                case 2:
                    text(once(4) ? spoilt(directionsText()) : directionsText(), "directions");
                    call("follow");
                    break;
                case 3:
                case 4:
                    linkSome();
                    break;
                case 5:
                    fillTray();
                    break;
                default:
                    callOne();
                    break;
            }
        }
    }

    private void text(String text, String call) throws Exception {
        byte[] bytes = new byte[(text.length() + 19) / 20 * 20];
        for (int k = 0; k < text.length(); k++) {
            bytes[k] = (byte) text.charAt(k);
        }
        for (int k = 0; k < bytes.length && !wrong; k += 20) {
            Object[] fives = new Object[5];
            for (int f = 0; f < 5; f++) {
                fives[f] = java.nio.ByteBuffer.wrap(bytes, k + 4 * f, 4).getInt();
            }
            call("feed", fives);
        }
        log.add("// " + text.replace("\n", "\\n"));
        call(call, once(20) ? any(-1, text.length() + 40) : text.length());
        call("fault", 0);
        call("fault", 1);
    }

    // ---- texts

    private String blanks(boolean needed) {
        return (needed ? one(" ", "\n") : "") + (once(12) ? one(" ", "\n", "  ", " \n") : "");
    }

    private String joined(List<String> tokens) {
        StringBuilder text = new StringBuilder(blanks(false));
        for (int k = 0; k < tokens.size(); k++) {
            String t = tokens.get(k);
            boolean needed = k > 0 && (t.matches("[a-z]+") && tokens.get(k - 1).matches("[a-z]+")
                || t.matches("[0-9]+") && tokens.get(k - 1).matches("[0-9]+"));
            text.append(blanks(needed)).append(t);
        }
        return text.append(blanks(false)).toString();
    }

    private String name() {
        if (once(12)) {
            return one("knit", "cut", "loop", "sized", "en", "rows", "abcdefgh");
        }
        StringBuilder name = new StringBuilder();
        for (int k = once(6) ? any(1, 8) : any(1, 2); k > 0; k--) {
            name.append((char) any('a', 'z'));
        }
        return name.toString();
    }

    private void add(List<String> tokens, Object... more) {
        for (Object o : more) {
            tokens.add(o.toString());
        }
    }

    private String chartText(boolean small) {
        boolean largest = !small && once(6);
        int width = largest ? 8 : small ? any(1, 4) : any(1, 8);
        int height = largest ? 6 : small ? any(1, 3) : any(1, 6);
        int colours = once(3) ? any(1, 5) : any(2, 3);
        List<String> names = new ArrayList<>();
        while (names.size() < colours) {
            String name = name();
            if (!names.contains(name)) {
                names.add(name);
            }
        }
        List<String> parts = new ArrayList<>(parts());
        java.util.Collections.shuffle(parts, chance);
        List<String> tokens = new ArrayList<>(List.of("size", "" + width, "" + height, ";"));
        for (String name : names) {
            if (once(3) && !parts.isEmpty()) {
                add(tokens, (Object[]) parts.remove(0).split(" "));
            }
            add(tokens, "colour", name, "shows", any(0, 9), "yarn", once(4) ? any(1, 99) : any(1, 6), ";");
        }
        for (int row = 0; row < height; row++) {
            add(tokens, "row");
            for (int x = 0; x < width; x++) {
                tokens.add(x > 0 && once(2) ? tokens.get(tokens.size() - 1) : names.get(any(0, colours - 1)));
            }
            add(tokens, ";");
        }
        for (String part : parts) {
            add(tokens, (Object[]) part.split(" "));
        }
        return joined(tokens);
    }

    private List<String> parts() {
        List<String> parts = new ArrayList<>();
        String[] all = {
            "end " + (once(6) ? any(0, 99) : any(0, 12)),
            "carry " + (once(6) ? any(0, 47) : any(0, 4)) + " cost " + (once(3) ? any(0, 9) : any(0, 2)),
            "twist " + (once(4) ? 0 : any(1, 9)), "wait " + any(0, 7) + " cost " + (once(6) ? any(0, 99) : any(0, 12)),
            "balls " + (once(6) ? any(1, 48) : any(1, 3)) + " cost " + (once(4) ? any(0, 99) : any(0, 9)),
            "strand " + (once(4) ? any(0, 99) : any(0, 4)), "sew " + (once(4) ? any(0, 999) : any(0, 9)),
            "alter " + (once(4) ? any(0, 999) : any(0, 6)), "round"};
        for (String part : all) {
            if (once(2)) {
                parts.add(part + " ;");
            }
        }
        return parts;
    }

    private String spoilt(String text) {
        String signs = "abz;  \n0199A\t\u00e9\u00ff-";
        StringBuilder spoilt = new StringBuilder(text);
        for (int k = any(1, 2); k > 0 && spoilt.length() > 1; k--) {
            int place = any(0, spoilt.length() - 1);
            switch (any(0, 4)) {
                case 0:
                    spoilt.deleteCharAt(place);
                    break;
                case 1:
                    spoilt.insert(place, signs.charAt(any(0, signs.length() - 1)));
                    break;
                case 2:
                    spoilt.setLength(place);
                    break;
                case 3:
                    spoilt.insert(place, one(" row ", " colour ", " end ", " round;", " 12345 ", " 10 ", " ; ",
                        " loop 2;", " size ", " cut ", " abcdefghi ", " knit a 1;", " end;"));
                    break;
                default:
                    int from = text.indexOf(';', any(0, text.length() - 1));
                    int to = from < 0 ? -1 : text.indexOf(';', from + 1);
                    if (to > 0) {
                        String part = text.substring(from + 1, to + 1);
                        spoilt = new StringBuilder(text);
                        spoilt.insert(once(2) ? to + 1 : text.length(), part);
                        if (once(2)) {
                            spoilt.delete(from + 1, to + 1);
                        }
                    }
                    break;
            }
        }
        return spoilt.toString();
    }

    private String directionsText() {
        List<String> tokens = new ArrayList<>();
        if (once(3)) {
            steps(tokens, 0);
        } else {
            knitAsItIs(tokens);
        }
        String text = joined(tokens);
        return text.length() > 300 ? text.substring(0, 300) : text;
    }

    private String colourName() {
        return model.names().isEmpty() || once(40) ? name() : model.names().get(any(0, model.names().size() - 1));
    }

    private void steps(List<String> tokens, int depth) {
        for (int k = any(0, 4); k > 0; k--) {
            if (once(2) && depth < (once(20) ? 4 : 3)) {
                add(tokens, "loop", once(4) ? any(1, 48) : any(1, 3), ";");
                steps(tokens, depth + 1);
                add(tokens, "end", ";");
            } else if (once(5)) {
                add(tokens, "cut", colourName(), ";");
            } else {
                add(tokens, "knit", colourName(), any(1, 3), ";");
            }
        }
    }

    /** The CHART's own STITCHES, here and there a loop around a STEP, a cut, or a fault of the knitter. */
    private void knitAsItIs(List<String> tokens) {
        int many = model.stitches();
        for (int i = 0; i < many;) {
            int same = 1;
            while (i + same < many && model.hueAt(i + same) == model.hueAt(i)) {
                same++;
            }
            String name = model.names().get(model.hueAt(i));
            if (once(2)) {
                add(tokens, "cut", name, ";");
            }
            if (once(4) && same > 1) {
                add(tokens, "loop", same, ";", "knit", name, 1, ";", "end", ";");
            } else {
                add(tokens, "knit", name, once(30) ? any(1, 48) : same, ";");
            }
            i += same;
        }
    }

    // ---- calls

    private void linkSome() throws Exception {
        int many = model.stitches();
        for (int k = any(1, 12); k > 0 && many > 1 && !wrong; k--) {
            int i = any(0, many - 2);
            call("link", i, any(i + 1, Math.min(many - 1, i + any(1, 12))));
        }
    }

    private void fillTray() throws Exception {
        int many = any(0, 12);
        int tray = any(0, 3);
        call("tray", tray, any(0, 3), 2 * many + any(0, 4));
        int top = Math.max(1, model.stitches() - 1);
        for (int k = 0; k < many && !wrong; k++) {
            int i = any(0, top - 1);
            boolean good = !once(20);
            call("write", tray, 2 * k, good ? (long) Math.min(top - 1, k * 2) : chance.nextLong());
            call("write", tray, 2 * k + 1, good ? (long) Math.min(top, k * 2 + any(1, 3)) : (long) any(-1, i + 9));
        }
        call("plan", tray, any(0, many));
    }

    private void callOne() throws Exception {
        Method m = calls[any(0, calls.length - 1)];
        boolean dear = List.of("best", "few", "sewn", "sewnCost").contains(m.getName());
        if (dear && model.stitches() > 20 && !once(12) || m.getName().equals("chart") && !once(4)) {
            return;
        }
        if (m.getName().equals("back") && once(2) || m.getName().equals("clear") && !once(3)) {
            return;
        }
        Class<?>[] types = m.getParameterTypes();
        Object[] args = new Object[types.length];
        for (int k = 0; k < args.length; k++) {
            args[k] = types[k] == long.class ? (Object) (once(2) ? chance.nextLong() : (long) any(-300, 300))
                : (Object) argument(m.getName(), k);
        }
        call(m, args);
    }

    private int argument(String call, int k) {
        if (once(60)) {
            return one(Integer.MIN_VALUE, Integer.MAX_VALUE, -1, -2, 5, 6, 48, 60, 61);
        }
        int stitches = Math.max(1, model.stitches());
        int width = model.width();
        int height = model.height();
        int colours = model.names().size();
        switch (call) {
            case "tray":
                return k == 0 ? any(0, 3) : k == 1 ? any(0, 3) : any(0, 60);
            case "write":
            case "read":
                return k == 0 ? any(0, 3) : any(0, 20);
            case "pour":
                return k % 2 == 0 ? any(0, 3) : any(0, 10);
            case "feed":
                return chance.nextInt();
            case "told":
                return any(-1, 15);
            case "lawful":
            case "cost":
            case "yarnOf":
            case "link":
                return k == 0 ? any(-1, stitches / 2) : any(stitches / 4, stitches);
            case "stitch":
            case "patch":
            case "thread":
                return k == 0 ? any(-1, stitches) : any(-1, 5);
            case "unlink":
            case "goes":
            case "comes":
            case "behind":
                return any(-1, stitches);
            case "buy":
            case "lasts":
                return k == 0 ? any(-1, colours) : once(6) ? any(-1, 10000) : any(0, 90);
            case "runsOut":
                return once(6) ? any(-1, 10000) : any(0, 60);
            case "saves":
                return k == 0 ? any(-1, stitches) : any(0, colours);
            case "window":
                return k == 0 ? any(0, width / 2) : k == 1 ? any(width / 3, width)
                    : k == 2 ? any(0, height / 2) : any(height / 3, height);
            case "at":
                return k == 0 ? any(-1, width) : any(-1, height);
            case "colour":
            case "yarn":
            case "threads":
            case "least":
            case "fewest":
            case "patches":
                return k == 0 ? any(-1, colours) : any(-1, 3);
            case "hangs":
            case "tangle":
            case "rowAlone":
            case "seam":
            case "lessened":
                return k == 0 ? any(-1, height) : any(0, 6);
            case "best":
            case "fewAt":
                return any(-1, 3);
            default:
                return any(-1, 6);
        }
    }
}
