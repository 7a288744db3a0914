import java.lang.management.ManagementFactory;
import java.lang.reflect.Constructor;
import java.lang.reflect.Field;
import java.lang.reflect.Method;
import java.lang.reflect.Modifier;
import java.nio.file.Files;
import java.nio.file.Path;
import java.util.ArrayList;
import java.util.List;
import java.util.Random;
import java.util.Set;
import java.util.TreeSet;

/** What holds of all calls: the face, LANGUAGE.md's words, no call throws, none makes objects. */
public final class RoomAndRules {
    static int wrong = 0;

    static void must(boolean so, String what) {
        if (!so) {
            wrong++;
            System.out.println("not so: " + what);
        }
    }

    public static void main(String[] args) throws Exception {
        face();
        words(Files.readString(Path.of("src/main/java/BehindBig.java")));
        wildCalls();
        room();
        System.out.println(wrong == 0 ? "all is so" : wrong + " are not so");
        if (wrong != 0) System.exit(1);
    }

    static void face() {
        Set<String> want = new TreeSet<>(List.of(
            "int world(int, int)", "int worlds(int, int, int)", "int mend(int, int, int)", "int of(int, int)", "int feed(int)", "int law()",
            "int place(int, int)", "int sees(int, int)", "int sights(int, int)", "int blind(int)", "int next(int, int)", "int all()",
            "int joined(int, int)", "int lasts(int, int)", "int unheard(int, int, int)", "int beam(int, int)", "int soonest(int, int)",
            "int way(int, int, int)", "int hands(int, int)", "int waits(int, int)", "int relay(int, int, int)", "long safe(int, int, int)",
            "int judge(int)", "int stepped(int, int, int)", "int whose(int)", "int send(int)", "int go(int, int)", "int drawn(int, int, int)",
            "int image()", "int back()", "int undo()", "int redo()", "int body(int)", "int act(int, int, int)", "int trace(int)",
            "int keep(int, int)", "int row(int, int, int)", "int put(int, int, long)", "long element(int, int)",
            "int shift(int, int, int, int, int)", "int taken(int, int)", "int count(int)"));
        Set<String> names = new TreeSet<>(), has = new TreeSet<>();
        for (Method m : BehindBig.class.getDeclaredMethods()) {
            if (Modifier.isPrivate(m.getModifiers())) continue;
            List<String> types = new ArrayList<>();
            for (Class<?> c : m.getParameterTypes()) types.add(c.getName());
            has.add(m.getReturnType().getName() + " " + m.getName() + "(" + String.join(", ", types) + ")");
            names.add(m.getName());
        }
        must(has.equals(want), "the face is the document's: " + has);
        for (Method m : BehindBig.class.getDeclaredMethods()) {
            if (Modifier.isPrivate(m.getModifiers())) must(!names.contains(m.getName()), "a private method has a name of its own: " + m.getName());
        }
        Set<String> constants = new TreeSet<>();
        for (Field f : BehindBig.class.getDeclaredFields()) {
            if (Modifier.isStatic(f.getModifiers())) must(Modifier.isFinal(f.getModifiers()), "a static field is final: " + f);
            if (!Modifier.isPrivate(f.getModifiers())) constants.add(f.getName());
        }
        must(constants.equals(Set.of("BAD", "NOT", "FULL", "STATE", "VOID")), "the constants are the document's: " + constants);
        must(Modifier.isFinal(BehindBig.class.getModifiers()), "the class is final");
        Constructor<?>[] made = BehindBig.class.getDeclaredConstructors();
        must(made.length == 1 && made[0].getParameterCount() == 0 && Modifier.isPublic(made[0].getModifiers()), "one public constructor");
        for (Class<?> c : BehindBig.class.getDeclaredClasses()) {
            must(Modifier.isStatic(c.getModifiers()), "a class inside is static: " + c);
            for (Method m : c.getDeclaredMethods()) must(!names.contains(m.getName()), "a method inside has a name of its own: " + m);
        }
        must(BehindBig.class.getDeclaredClasses().length <= 12, "at most twelve classes");
    }

    static void words(String source) {
        String code = source.replaceAll("(?s)/\\*.*?\\*/", " ").replaceAll("//[^\n]*", " ");
        String[] never = {"throw", "throws", "try", "catch", "finally", "synchronized", "assert", "package", "Object", "Random", "System\\.nanoTime",
            "System\\.currentTimeMillis", "Thread", "Class", "hashCode", "toString", "var", "native", "volatile"};
        for (String word : never) must(!code.matches("(?s).*\\b" + word + "\\b.*"), "no " + word);
        must(!code.contains("->") && !code.contains("::") && !code.contains("Exact"), "no lambda, no method reference, nothing Exact");
        must(code.chars().allMatch(c -> c < 128), "signs 1 to 127 alone");
        must(code.split("\\bimport\\b", -1).length == 2 && code.contains("import java.util.Arrays;"), "one import");
    }

    static final int[] ODD = {Integer.MIN_VALUE, Integer.MIN_VALUE + 1, -1000000, -2, -1, 0, 1, 2, 3, 5, 6, 7, 9, 10, 11, 12, 13, 20, 21, 23, 30, 45, 55, 60,
        61, 99, 100, 119, 120, 129, 180, 255, 256, 600, 601, 1211, 999999, 1000000, Integer.MAX_VALUE - 1, Integer.MAX_VALUE};

    /** Any numbers in any state: reflection would tell of anything that is thrown. */
    static void wildCalls() {
        Random random = new Random(5);
        List<Method> methods = new ArrayList<>();
        for (Method m : BehindBig.class.getDeclaredMethods()) if (Modifier.isPublic(m.getModifiers())) methods.add(m);
        methods.sort((a, b) -> a.getName().compareTo(b.getName()));
        for (int run = 0; run < 400; run++) {
            BehindBig x = new BehindBig();
            for (int i = random.nextInt(7); i > 0; i--) {
                int period = 1 + random.nextInt(run % 8 == 0 ? 12 : 6);
                x.world(100 * period + random.nextInt(period), 1 + random.nextInt(9));
            }
            for (int call = 0; call < 600; call++) {
                Method m = methods.get(random.nextInt(methods.size()));
                Object[] told = new Object[m.getParameterCount()];
                for (int i = 0; i < told.length; i++) {
                    int v = random.nextInt(3) == 0 ? ODD[random.nextInt(ODD.length)] : random.nextInt(13);
                    told[i] = m.getParameterTypes()[i] == long.class ? (Object) (long) v : (Object) v;
                }
                try {
                    m.invoke(x, told);
                } catch (ReflectiveOperationException e) {
                    must(false, m.getName() + java.util.Arrays.toString(told) + " threw " + e.getCause());
                    return;
                }
            }
        }
    }

    /** Calls make nothing: all 512 of an object and the object itself stay far below the room. */
    static void room() {
        com.sun.management.ThreadMXBean bean = (com.sun.management.ThreadMXBean) ManagementFactory.getThreadMXBean();
        long id = Thread.currentThread().getId();
        dearCalls(new BehindBig());
        long before = bean.getThreadAllocatedBytes(id);
        BehindBig x = new BehindBig();
        long made = bean.getThreadAllocatedBytes(id);
        long sum = dearCalls(x);
        long after = bean.getThreadAllocatedBytes(id);
        must(made - before < 100000, "an object takes less than 100000 bytes: " + (made - before));
        must(after - made < 1000, "calls make nothing: " + (after - made) + " bytes");
        must(sum != 0, "the calls were made");
    }

    static long dearCalls(BehindBig x) {
        long sum = 0;
        for (int i = 0; i < 6; i++) sum += x.world(100 * (12 - i), 1 + i);
        sum += x.feed('d') + x.feed('<') + x.feed('9') + x.feed('0') + x.law();
        for (int i = 0; i < 5; i++) {
            sum += x.mend(0, 3, 100 + i) + x.waits(1, 0) + x.relay(23, 55, 1) + x.all() + x.next(-1, 5) + x.lasts(4, 0) + x.joined(1, 1);
            sum += x.soonest(12, 5) + x.way(12, 5, 1) + x.hands(45, 1) + x.safe(1, 1, 20) + x.sights(1, 0) + x.blind(1) + x.unheard(1, 2, 3) + x.beam(1, 0);
            sum += x.send(1) + x.send(25) + x.go(i, 50) + x.drawn(i, 30, 0) + x.image() + x.back() + x.undo() + x.redo();
            sum += x.row(0, 1, 60) + x.put(0, 0, 4) + x.judge(0) + x.stepped(0, 1, 0) + x.whose(0) + x.shift(0, 0, 0, 3, 5) + x.element(0, 3);
            sum += x.body(7) + x.act(i, 3, 9) + x.trace(0) + x.keep(1, 0) + x.taken(1, 1) + x.row(2, 0, 9) + x.worlds(2, 0, 3) + x.count(2) + x.of(0, 23);
        }
        return sum;
    }
}
