import java.io.IOException;
import java.nio.file.Files;
import java.nio.file.Path;
import java.util.ArrayList;
import java.util.LinkedHashMap;
import java.util.List;
import java.util.Map;

/**
 * Sentences of the document and the tests that stand for them. Each is quoted word by word: a quote that
 * the document does not have is wrong, so is one behind which nothing is asked, and so is any part of
 * the document that no quote has.
 */
final class Edge {
    private static final Path DOCUMENT = Path.of("../shared/DOC.md");
    private static final Map<String, String> SECTIONS = new LinkedHashMap<>();
    private static final Map<String, boolean[]> QUOTED = new LinkedHashMap<>();
    private static int askedBefore = -1;
    private static String latest = "";

    private Edge() { }

    // ---- the document

    static void readDocument() throws IOException {
        String name = "";
        StringBuilder text = new StringBuilder();
        for (String line : Files.readAllLines(DOCUMENT)) {
            String next = sectionOf(line);
            if (next != null) {
                addSection(name, text.toString());
                name = next;
                text.setLength(0);
            }
            boolean aside = line.startsWith("#") || line.startsWith("```");
            text.append(aside ? "" : line.replaceFirst("^(I|II|III|IV)\\. ", "")).append(' ');
        }
        addSection(name, text.toString());
    }

    /** The name of the section that begins with this line; null of most lines. */
    private static String sectionOf(String line) {
        if (line.startsWith("## Promise ")) {
            return line.replaceAll("## Promise (\\d+):.*", "$1");
        }
        if (line.matches("(I|II|III|IV)\\. .*")) {
            return line.replaceAll("\\. .*", "");
        }
        if (line.startsWith("An object is used for")) {
            return "calls";
        }
        if (line.startsWith("The constants:")) {
            return "constants";
        }
        switch (line) {
            case "## What it is": return "what";
            case "## The public face": return "face";
            case "## Terms": return "terms";
            case "## Not promised": return "not";
            default: return line.startsWith("## ") ? "" : null;
        }
    }

    /** The text of a section, in one line; empty if there is none such. */
    static String section(String name) {
        return SECTIONS.getOrDefault(name, "");
    }

    private static void addSection(String name, String text) {
        if (!name.isEmpty()) {
            String plain = text.replaceAll("\\s+", " ").trim();
            SECTIONS.put(name, plain);
            QUOTED.put(name, new boolean[plain.length()]);
        }
    }

    /** What is asked from here on stands for this sentence of that section. */
    static void of(String section, String quote) {
        closeLatest();
        latest = section + ": " + quote;
        Check.about(latest);
        askedBefore = Check.asked();
        String text = section(section);
        int at = text.indexOf(quote);
        if (at < 0) {
            Check.due("the document says so", false, true);
        }
        for (; at >= 0; at = text.indexOf(quote, at + 1)) {
            java.util.Arrays.fill(QUOTED.get(section), at, at + quote.length(), true);
        }
        askedBefore = Check.asked();
    }

    static void of(int promise, String quote) {
        of(Integer.toString(promise), quote);
    }

    private static void closeLatest() {
        if (askedBefore >= 0 && Check.asked() == askedBefore) {
            Check.due("something is asked", false, true);
        }
    }

    /** Every word of the document must be quoted. */
    static void end() {
        closeLatest();
        Check.about("");
        Check.due("sections", SECTIONS.size(), 4 + 42 + 6);
        for (String name : SECTIONS.keySet()) {
            for (String part : unquoted(name)) {
                Check.due("no test quotes " + name + ": " + part, true, false);
            }
        }
        Check.end();
    }

    private static List<String> unquoted(String name) {
        List<String> parts = new ArrayList<>();
        String text = SECTIONS.get(name);
        boolean[] quoted = QUOTED.get(name);
        StringBuilder part = new StringBuilder();
        for (int i = 0; i <= text.length(); i++) {
            if (i < text.length() && !quoted[i]) {
                part.append(text.charAt(i));
                continue;
            }
            if (part.toString().matches(".*[A-Za-z0-9].*")) {
                parts.add(part.toString());
            }
            part.setLength(0);
        }
        return parts;
    }

    // ---- texts: the sign ^, which no text has, marks the place that is due

    static void good(String text, int statements) {
        CellSlide x = new CellSlide();
        Check.text(x, text);
        Check.due("heap() of " + text, x.heap(), statements);
        Check.due("fault(0) of " + text, x.fault(0), 0);
    }

    static void heapFault(int fault, String marked) {
        Check.heapFault(marked.replace("^", ""), fault, marked.indexOf('^'));
    }

    static void runFault(CellSlide x, int fault, String marked) {
        Check.runFault(x, marked.replace("^", ""), fault, marked.indexOf('^'));
    }

    static void runs(CellSlide x, int acts, String text) {
        Check.runs(x, text, acts, 0, Check.NONE);
    }

    static void fails(CellSlide x, int acts, int how, String marked) {
        Check.runs(x, marked.replace("^", ""), acts, how, marked.indexOf('^'));
    }

    // ---- words

    /** What the words from an address on hold: N number, P address, nil, H kind, L address. */
    static void words(CellSlide x, int from, String held) {
        int a = from;
        for (String one : held.trim().split("\\s+")) {
            int sort = one.equals("nil") ? 1 : "NPHL".indexOf(one.charAt(0));
            int number = one.equals("nil") ? Check.NONE : Integer.parseInt(one.substring(1));
            Check.holds(x, a, sort, number);
            a++;
        }
    }

    /** All that a refused call must leave as it was (but for status(), fault() and the tape). */
    static String all(CellSlide x) {
        StringBuilder text = new StringBuilder();
        for (int what = 0; what < 10; what++) {
            text.append(x.has(what)).append(' ');
        }
        for (int a = -8; a < x.has(0); a++) {
            text.append(x.word(a, 0)).append(':').append(x.word(a, 1)).append(' ');
        }
        for (int what = 0; what < 4; what++) {
            text.append(x.stage(what)).append(' ');
        }
        for (int k = 0; k < x.has(6); k++) {
            for (int what = 0; what < 4; what++) {
                text.append(x.kept(k, what)).append(' ');
            }
        }
        text.append(x.failed(0)).append(' ').append(x.failed(1)).append(' ');
        text.append(x.alike()).append(' ').append(x.then(Check.NONE)).append(' ').append(x.then(0));
        return text.toString();
    }

    static void same(String what, String got, String want) {
        Check.due(what + ": " + got + " | " + want, got.equals(want), true);
    }

    static void none(String call, int got) {
        Check.due(call, got, Check.NONE);
    }

    /** What is SEEN: rows of an address, a sort, a number. */
    static int see(CellSlide x, int... rows) {
        int[] bytes = new int[rows.length / 3 * 4];
        for (int r = 0; r < rows.length / 3; r++) {
            bytes[4 * r] = rows[3 * r] & 255;
            bytes[4 * r + 1] = rows[3 * r + 1];
            bytes[4 * r + 2] = (rows[3 * r + 2] + 1000) >> 8 & 255;
            bytes[4 * r + 3] = (rows[3 * r + 2] + 1000) & 255;
        }
        Check.bytes(x, bytes);
        return x.see();
    }

    static int[] imageOf(CellSlide x) {
        int[] bytes = new int[Math.max(0, x.image())];
        for (int k = 0; k < bytes.length; k++) {
            bytes[k] = x.octet(k);
        }
        return bytes;
    }
}
