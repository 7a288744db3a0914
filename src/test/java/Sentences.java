import java.lang.reflect.Method;
import java.lang.reflect.Modifier;
import java.nio.file.Path;
import java.util.Set;
import java.util.TreeSet;
import java.util.regex.Matcher;
import java.util.regex.Pattern;

/**
 * The document, sentence by sentence: each test names its promise and the words of DOC.md that it is of (src/test/sentences).
 * It also fails if the document does not hold those words, or holds words that no test names.
 */
public final class Sentences {
    public static void main(String[] args) throws Exception {
        Document document = new Document(Path.of("../shared/DOC.md"));
        Told t = new Told(document);
        face(t, document);
        OfWorlds.tell(t);
        OfLaws.tell(t);
        OfSights.tell(t);
        OfMessages.tell(t);
        OfBooks.tell(t);
        OfDeeds.tell(t);
        OfActs.tell(t);
        OfShelves.tell(t);
        OfRefusals.tell(t);
        overview(t, document);
        int unnamed = document.unnamed();
        if (!t.ended() || unnamed > 0) System.exit(1);
    }

    /** The face as the document writes it, line by line. */
    private static void face(Told t, Document document) {
        String face = document.part("The public face");
        t.says(1, face);
        Set<String> want = new TreeSet<>(), has = new TreeSet<>();
        Matcher line = Pattern.compile("public (int|long) (\\w+)\\(([^)]*)\\);").matcher(face);
        while (line.find()) want.add(line.group(1) + " " + line.group(2) + "(" + line.group(3).replaceAll(" \\w+(, |$)", "$1") + ")");
        for (Method m : BehindBig.class.getDeclaredMethods()) {
            if (!Modifier.isPublic(m.getModifiers())) continue;
            StringBuilder told = new StringBuilder(m.getReturnType() + " " + m.getName() + "(");
            for (Class<?> type : m.getParameterTypes()) told.append(told.charAt(told.length() - 1) == '(' ? "" : ", ").append(type);
            has.add(told.append(')').toString());
        }
        t.due("methods of the face", want.size(), 42);
        if (!want.equals(has)) t.fault("the face is " + has);
        t.due("BAD", BehindBig.BAD, -1);
        t.due("NOT", BehindBig.NOT, -2);
        t.due("FULL", BehindBig.FULL, -3);
        t.due("STATE", BehindBig.STATE, -5);
        t.due("VOID", BehindBig.VOID, -2000000000);
        t.says(1, "VOID is -2000000000.");
        t.due("VOID", BehindBig.VOID, -2000000000);
    }

    /** Words that no call can be made of: what is told again, promise by promise, and what is left free. */
    private static void overview(Told t, Document document) {
        String whatItIs = document.part("What it is");
        t.says(1, whatItIs.substring(0, whatItIs.indexOf(" An object is used")));
        t.says(1, "what later calls answer is free.");
        t.says(1, document.part("Not promised"));
        t.says(1, "IN DEED:");
        t.says(1, "BODIES of acts:");
        String[] parts = {"sights", "messages in thought", "books", "in deed", "acts, shelves"};
        for (String part : parts) t.says(1, "the interface says: ---- " + part + ".");
        Matcher ahead = Pattern.compile("Ahead of the calls [^.]* the interface says: ---- \\w+").matcher(document.part("Terms"));
        while (ahead.find()) t.says(1, ahead.group());
    }
}
