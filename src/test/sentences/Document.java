import java.io.IOException;
import java.nio.file.Files;
import java.nio.file.Path;
import java.util.LinkedHashMap;
import java.util.Map;

/** DOC.md by its parts, blanks and line ends made one blank; and which of its words a test has named. */
final class Document {
    private final Map<String, String> parts = new LinkedHashMap<>();
    private final Map<String, boolean[]> named = new LinkedHashMap<>();

    Document(Path path) throws IOException {
        for (String part : Files.readString(path).split("(?m)^## ")) {
            int end = part.indexOf('\n');
            String name = part.substring(0, Math.max(0, end)).replaceAll(":.*", "").trim();
            if (!name.isEmpty() && !name.startsWith("#")) parts.put(name, part.substring(end + 1).replaceAll("\\s+", " ").trim());
        }
        for (String name : parts.keySet()) named.put(name, new boolean[parts.get(name).length()]);
    }

    String part(String name) {
        return parts.getOrDefault(name, "");
    }

    /** Names words of a promise, or else of the parts that are no promise; false: they are not found. */
    boolean mark(int promise, String words) {
        boolean found = mark("Promise " + promise, words);
        for (String name : parts.keySet()) if (!name.startsWith("Promise ")) found |= mark(name, words);
        return found;
    }

    private boolean mark(String name, String words) {
        String text = part(name);
        boolean found = false;
        for (int at = text.indexOf(words); at >= 0; at = text.indexOf(words, at + 1)) {
            for (int i = at; i < at + words.length(); i++) named.get(name)[i] = true;
            found = true;
        }
        return found;
    }

    /** How many runs of words no test has named; each is printed. */
    int unnamed() {
        int unnamed = 0;
        for (String name : parts.keySet()) {
            String text = part(name);
            boolean[] seen = named.get(name);
            // The face is compared as a whole, and a promise's own line of it with it.
            int from = name.startsWith("Promise ") ? text.indexOf("`: ") + 3 : 0;
            for (int i = from; i < text.length(); ) {
                int end = i;
                while (end < text.length() && seen[end] == seen[i]) end++;
                String run = text.substring(i, end).replaceAll("======== \\d|```text|```", "");
                if (!seen[i] && run.matches(".*[A-Za-z0-9].*")) {
                    unnamed++;
                    System.out.println("no test names, of " + name + ": " + run.trim());
                }
                i = end;
            }
        }
        return unnamed;
    }
}
