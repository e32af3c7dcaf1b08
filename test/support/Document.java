import java.io.IOException;
import java.nio.file.Files;
import java.nio.file.Path;
import java.util.ArrayList;
import java.util.LinkedHashMap;
import java.util.List;
import java.util.Map;
import java.util.Set;

/** ../shared/DOC.md as places ("Section 2", "Promise 7", ..) with their clauses, each of which a test can hold. */
final class Document {
    private static final class Clause {
        final String text;
        final int start;
        boolean held;

        Clause(String text, int start) {
            this.text = text;
            this.start = start;
        }
    }

    private static final class Place {
        final StringBuilder text = new StringBuilder();
        final List<Clause> clauses = new ArrayList<>();

        void add(String clause) {
            clauses.add(new Clause(clause, text.length()));
            text.append(clause).append(' ');
        }
    }

    private static final Set<String> TITLES = Set.of("The field, winds, kites.", "A tick.", "Lines that cross.", "Setup text.", "Events.");

    private final Map<String, Place> places = new LinkedHashMap<>();

    static Document read() {
        try {
            Document d = new Document();
            d.readLines(Files.readAllLines(Path.of("../shared/DOC.md")));
            return d;
        } catch (IOException e) {
            throw new IllegalStateException(e);
        }
    }

    private void readLines(List<String> lines) {
        String name = null;
        boolean code = false;
        for (String line : lines) {
            if (line.startsWith("```")) {
                code = !code;
                continue;
            }
            String next = code ? null : placeThatBegins(line);
            if (next != null) name = next.isEmpty() ? null : next;
            if (name != null && !line.isBlank() && !line.startsWith("#")) addClauses(name, line, code);
        }
    }

    /** The name of the place that begins with a line, an empty one if nothing of it can be tested, or null. */
    private static String placeThatBegins(String line) {
        if (line.startsWith("## Promise ")) return line.substring(3, line.indexOf(':'));
        if (line.startsWith("## What it is")) return "What it is";
        if (line.startsWith("## ") || line.startsWith("Ahead of the calls ")) return "";
        if (line.matches("[1-6]\\. .*")) return "Section " + line.charAt(0);
        if (line.startsWith("Exceptions: ")) return "Exceptions";
        if (line.startsWith("The constants: ")) return "Constants";
        return null;
    }

    private void addClauses(String name, String line, boolean code) {
        Place place = places.computeIfAbsent(name, n -> new Place());
        String plain = line.trim().replaceAll("\\s+", " ");
        for (String clause : code ? new String[] {plain} : plain.split("(?<=[.;]) ")) {
            // the marks of a list ("a.", "1.") are no clauses
            if (clause.length() > 2 && !TITLES.contains(clause)) place.add(clause);
        }
    }

    /** Marks the clauses of a place that hold these words; tells whether there are such. */
    boolean hold(String name, String words) {
        Place place = places.get(name);
        int at = place == null ? -1 : place.text.indexOf(words);
        if (at < 0) return false;
        for (; at >= 0; at = place.text.indexOf(words, at + 1)) {
            for (Clause c : place.clauses) {
                if (c.start < at + words.length() && at < c.start + c.text.length()) c.held = true;
            }
        }
        return true;
    }

    List<String> notHeld() {
        List<String> all = new ArrayList<>();
        for (Map.Entry<String, Place> place : places.entrySet()) {
            for (Clause c : place.getValue().clauses) {
                if (!c.held) all.add(place.getKey() + ": " + c.text);
            }
        }
        return all;
    }

    int size() {
        int number = 0;
        for (Place place : places.values()) number += place.clauses.size();
        return number;
    }
}
