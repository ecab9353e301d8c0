import java.io.IOException;
import java.nio.file.Files;
import java.nio.file.Path;
import java.util.ArrayList;
import java.util.LinkedHashMap;
import java.util.List;
import java.util.Map;
import java.util.regex.Matcher;
import java.util.regex.Pattern;

/**
 * Names the promise and the sentence of the document that the checks behind it are of.
 * At the end it looks whether each sentence stands in the document as quoted, whether each has a check,
 * and whether a sentence of the document is left without one.
 */
final class SentenceKit {
    /** The parts of the document by name: "Terms", and the promises by their numbers. */
    private static final Map<String, String> PARTS = new LinkedHashMap<>();
    private static final Map<String, boolean[]> QUOTED = new LinkedHashMap<>();
    private static final Path DOCUMENT = Path.of("../shared/DOC.md");

    private static String part = "";
    private static String words = "";
    private static int checksAhead = 0;
    private static int sentences = 0;
    private static final List<String> UNCHECKED = new ArrayList<>();

    private SentenceKit() {
    }

    static void terms(String sentence) {
        begin("Terms", sentence);
    }

    static void promise(int number, String sentence) {
        begin(String.valueOf(number), sentence);
    }

    static void begin(String newPart, String sentence) {
        leave();
        part = newPart;
        words = sentence;
        checksAhead = CheckKit.checks();
        sentences++;
    }

    /** What a wrong answer's line begins with. */
    static String now() {
        if (words.isEmpty()) {
            return "";
        }
        return (part.matches("[0-9]+") ? "promise " + part : part) + ", \"" + words + "\": ";
    }

    private static void leave() {
        if (!words.isEmpty() && CheckKit.checks() == checksAhead) {
            UNCHECKED.add(now());
        }
        quote();
        words = "";
    }

    private static void quote() {
        if (PARTS.isEmpty()) {
            readDocument();
        }
        String text = PARTS.get(part);
        if (words.isEmpty() || PARTS.containsKey("missing")) {
            return;
        }
        int at = text == null ? -1 : text.indexOf(words);
        CheckKit.due("stands in the document", at >= 0, true);
        while (at >= 0) {
            for (int i = at; i < at + words.length(); i++) {
                QUOTED.get(part)[i] = true;
            }
            at = text.indexOf(words, at + 1);
        }
    }

    private static void readDocument() {
        try {
            String all = Files.readString(DOCUMENT).replaceAll("(?m)^```.*$", "");
            Matcher m = Pattern.compile("(?s)## (What it is|Terms|Promise ([0-9]+): [^\n]*)\n(.*?)(?=\n## |$)").matcher(all);
            while (m.find()) {
                String name = m.group(2) == null ? m.group(1) : m.group(2);
                String body = m.group(3).replaceAll("====( [234]\\.)?", " ").replaceAll("\\s+", " ").trim();
                // A promise begins with its call.
                body = m.group(2) == null ? body : body.replaceFirst("^`[^`]*`: ", "");
                PARTS.put(name, body);
                QUOTED.put(name, new boolean[body.length()]);
            }
        } catch (IOException e) {
            System.out.println("no document to compare sentences with");
            PARTS.put("missing", "");
        }
    }

    /** What no check was of. */
    static void end() {
        leave();
        System.out.println(sentences + " sentences");
        for (String sentence : UNCHECKED) {
            CheckKit.due(sentence + "has no check", true, false);
        }
        if (PARTS.containsKey("missing")) {
            return;
        }
        CheckKit.due("the terms and 31 promises, and what it is", PARTS.size(), 33);
        for (Map.Entry<String, String> e : PARTS.entrySet()) {
            if (!e.getKey().equals("What it is")) {
                lookForRest(e.getKey(), e.getValue(), QUOTED.get(e.getKey()));
            }
        }
    }

    private static void lookForRest(String name, String text, boolean[] quoted) {
        StringBuilder rest = new StringBuilder();
        for (int i = 0; i < text.length(); i++) {
            rest.append(quoted[i] ? '\n' : text.charAt(i));
        }
        for (String piece : rest.toString().split("\n+")) {
            boolean isSaid = piece.matches("(?s).*[A-Za-z0-9].*");
            CheckKit.due(name + " has a sentence without a test: " + piece, isSaid, false);
        }
    }
}
