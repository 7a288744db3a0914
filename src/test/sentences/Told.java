import java.lang.reflect.Method;
import java.lang.reflect.Modifier;
import java.util.ArrayList;
import java.util.HashMap;
import java.util.List;
import java.util.Map;

/**
 * Runs of calls on new objects, each told as a text, below the sentence of DOC.md that they test.
 *
 * A run is made of steps, parted by ; outside quotes:
 *   place(0, 3) -> 270          a call and what is due (a number, or BAD, NOT, FULL, STATE, NONE: Long.MIN_VALUE)
 *   feed(100) *120              a call made so often; calls without -> must not be refused
 *   law "d<90" -> 1             each sign fed, then law()
 *   tape "d<90"                 each sign fed
 *   sky 400/2 603/5*3           world(400, 2), then world(603, 5) three times
 *   bytes 0: 5 2 3              row(0, 0, 3) and what is put in; so shorts, ints, longs, booleans
 *
 * A call that is due to be refused is also made on one of two objects that stand alike: all that can be asked of them
 * must then be answered alike, as what is answered so changes nothing.
 */
final class Told {
    private static final String[] SORTS = {"bytes", "shorts", "ints", "longs", "booleans"};
    private static final int MOST_CALLS = 512;

    private record Step(String name, long[] args, Long want) {
        String shown() {
            StringBuilder text = new StringBuilder(name).append('(');
            for (int i = 0; i < args.length; i++) text.append(i > 0 ? ", " : "").append(args[i]);
            return text.append(')').toString();
        }
    }

    private final Document document;
    private final Map<String, Method> face = new HashMap<>();
    private final List<Step> probe;
    private int promise;
    private String words = "";
    private int wrong, tests, twins;

    Told(Document document) {
        this.document = document;
        for (Method m : BehindBig.class.getDeclaredMethods()) if (Modifier.isPublic(m.getModifiers())) face.put(m.getName(), m);
        probe = read(probeText());
    }

    /** The tests behind this are of that promise and of these words of the document. */
    void says(int promise, String words) {
        this.promise = promise;
        this.words = words;
        if (!document.mark(promise, words)) fault("the document does not say so");
    }

    void fault(String what) {
        wrong++;
        System.out.println("promise " + promise + ", \"" + words + "\": " + what);
    }

    void due(String call, long got, long want) {
        tests++;
        if (got != want) fault(call + " answered " + got + ", due is " + want);
    }

    /** One run on a new object. */
    void run(String text) {
        List<Step> steps = read(text);
        BehindBig x = new BehindBig();
        if (steps.size() > MOST_CALLS) fault("more than " + MOST_CALLS + " calls: " + text);
        for (int i = 0; i < steps.size(); i++) {
            Step step = steps.get(i);
            if (step.want != null && isRefusal(step)) leavesAll(steps.subList(0, i), step);
            long got = make(x, step);
            if (step.want != null) due(text + " / " + step.shown(), got, step.want);
            else if (got < 0 && !step.name.equals("act")) fault(text + " / " + step.shown() + " was refused: " + got);
        }
    }

    /** Each of these calls by itself, on a new object behind the same calls. */
    void each(String before, String... calls) {
        for (String call : calls) run(before.isEmpty() ? call : before + "; " + call);
    }

    /** Two objects on which calls were made, the one asked as the other one. */
    void alike(String what, BehindBig x, BehindBig y) {
        compare(what, x, y, probe.size());
    }

    void make(BehindBig x, String text) {
        for (Step step : read(text)) make(x, step);
    }

    boolean ended() {
        System.out.println(tests + " answers and " + twins + " refusals that leave all as it was; " + wrong + " are not as due");
        return wrong == 0;
    }

    // ---- refusals

    private static boolean isRefusal(Step step) {
        if (step.name.equals("act") || step.name.equals("element") && step.want != Long.MIN_VALUE) return false;
        return step.want < 0 && step.want >= -14 || step.want == Long.MIN_VALUE;
    }

    private void leavesAll(List<Step> before, Step refused) {
        BehindBig x = new BehindBig(), y = new BehindBig();
        for (Step step : before) {
            make(x, step);
            make(y, step);
        }
        make(x, refused);
        twins++;
        compare("behind " + refused.shown(), x, y, Math.min(probe.size(), MOST_CALLS - before.size() - 1));
    }

    private void compare(String what, BehindBig x, BehindBig y, int asked) {
        for (Step step : probe.subList(0, Math.max(0, asked))) {
            long a = make(x, step), b = make(y, step);
            if (a != b) fault(what + ": " + step.shown() + " answered " + a + ", and without it " + b);
        }
    }

    /** All that can be asked, the calls that change what they ask about last. */
    private static String probeText() {
        StringBuilder text = new StringBuilder("count(0)");
        for (int i = 1; i < 7; i++) text.append("; count(" + i + ")");
        for (int i = 20; i < 24; i++) text.append("; of(0, " + i + ")");
        for (int w = 0; w < 6; w++) for (int i = 0; i < 5; i++) text.append("; of(" + w + ", " + i + ")");
        for (int s = 0; s < 6; s++) text.append("; taken(" + s + ", 0); element(" + s + ", 0); element(" + s + ", 1); element(" + s + ", 2)");
        for (int i = 0; i < 4; i++) text.append("; trace(" + i + "); sees(1, " + i + "); sees(12, " + i + "); sees(3, " + i + ")");
        for (int m = 0; m < 10; m++) for (int i = 10; i < 14; i++) text.append("; of(" + m + ", " + i + ")");
        String changed = "; of(0, 20); of(0, 21); of(0, 0); of(0, 1); of(1, 1)";
        text.append("; redo()" + changed);
        for (int i = 0; i < 4; i++) text.append("; undo()" + changed);
        text.append("; law(); sees(1, 0); sees(12, 1); go(9, 2); of(0, 4); of(0, 12); back(); of(0, 22); of(0, 4); count(1); of(0, 12)");
        return text.append("; act(0, 3, 1); body(3); image()").toString();
    }

    // ---- calls

    private long make(BehindBig x, Step step) {
        Method method = face.get(step.name);
        if (method == null || method.getParameterCount() != step.args.length) throw new IllegalStateException("no such call: " + step.shown());
        Object[] told = new Object[step.args.length];
        for (int i = 0; i < told.length; i++) {
            if (method.getParameterTypes()[i] == long.class) told[i] = step.args[i];
            else told[i] = Math.toIntExact(step.args[i]);
        }
        try {
            return ((Number) method.invoke(x, told)).longValue();
        } catch (ReflectiveOperationException e) {
            fault(step.shown() + " threw " + e.getCause());
            return 0;
        }
    }

    // ---- reading

    private static List<Step> read(String text) {
        List<Step> steps = new ArrayList<>();
        for (String part : parts(text)) readStep(part.trim(), steps);
        return steps;
    }

    private static List<String> parts(String text) {
        List<String> parts = new ArrayList<>();
        boolean quoted = false;
        int from = 0;
        for (int i = 0; i < text.length(); i++) {
            if (text.charAt(i) == '"') quoted = !quoted;
            if (text.charAt(i) == ';' && !quoted) {
                parts.add(text.substring(from, i));
                from = i + 1;
            }
        }
        parts.add(text.substring(from));
        return parts;
    }

    private static void readStep(String part, List<Step> steps) {
        if (part.startsWith("law \"") || part.startsWith("tape \"")) {
            int end = part.lastIndexOf('"');
            for (char c : part.substring(part.indexOf('"') + 1, end).toCharArray()) steps.add(new Step("feed", new long[] {c}, null));
            if (part.startsWith("law")) steps.add(new Step("law", new long[0], end + 1 < part.length() ? wanted(part.substring(end + 1)) : Long.valueOf(1)));
            return;
        }
        if (part.startsWith("sky ")) {
            for (String one : part.substring(4).trim().split(" +")) {
                String[] told = one.split("[/*]");
                Step step = new Step("world", new long[] {number(told[0]), number(told[1])}, null);
                for (long i = told.length > 2 ? number(told[2]) : 1; i > 0; i--) steps.add(step);
            }
            return;
        }
        for (int sort = 0; sort < SORTS.length; sort++) {
            if (!part.startsWith(SORTS[sort] + " ")) continue;
            readRow(sort, part.substring(SORTS[sort].length() + 1), steps);
            return;
        }
        int open = part.indexOf('('), close = part.indexOf(')');
        if (open < 1 || close < open) throw new IllegalStateException("no step: " + part);
        String inside = part.substring(open + 1, close).trim(), rest = part.substring(close + 1).trim();
        String[] told = inside.isEmpty() ? new String[0] : inside.split(" *, *");
        long[] args = new long[told.length];
        for (int i = 0; i < args.length; i++) args[i] = number(told[i]);
        int times = rest.startsWith("*") ? Integer.parseInt(rest.substring(1)) : 1;
        for (int i = 0; i < times; i++) steps.add(new Step(part.substring(0, open), args, rest.startsWith("->") ? wanted(rest) : null));
    }

    private static void readRow(int sort, String told, List<Step> steps) {
        long shelf = number(told.substring(0, told.indexOf(':')));
        String inside = told.substring(told.indexOf(':') + 1).trim();
        String[] values = inside.isEmpty() ? new String[0] : inside.split(" +");
        steps.add(new Step("row", new long[] {shelf, sort, values.length}, null));
        for (int i = 0; i < values.length; i++) steps.add(new Step("put", new long[] {shelf, i, number(values[i])}, null));
    }

    private static Long wanted(String rest) {
        return number(rest.trim().substring(2));
    }

    private static long number(String text) {
        switch (text.trim()) {
            case "BAD": return -1;
            case "NOT": return -2;
            case "FULL": return -3;
            case "STATE": return -5;
            case "NONE": return Long.MIN_VALUE;
            case "MIN": return Integer.MIN_VALUE;
            case "MAX": return Integer.MAX_VALUE;
            default: return Long.parseLong(text.trim());
        }
    }
}
