import java.io.IOException;
import java.nio.file.Files;
import java.nio.file.Path;
import java.util.ArrayList;
import java.util.LinkedHashMap;
import java.util.List;
import java.util.Map;
import java.util.stream.Collectors;
import java.util.stream.Stream;

/**
 * All promises: each sentence of the document that names a boundary case has a run of its own in src/test/edges. Each
 * call there that is refused is held against a twin without it; and each sentence of the document must have its run.
 */
public final class EdgeTest {
    private EdgeTest() {
    }

    public static void main(String[] args) throws IOException, ReflectiveOperationException {
        List<EdgeRun> runs = new ArrayList<>();
        try (Stream<Path> files = Files.list(Path.of("src/test/edges"))) {
            for (Path file : files.sorted().collect(Collectors.toList())) {
                runs.addAll(EdgeRun.read(Files.readAllLines(file)));
            }
        }
        for (EdgeRun run : runs) {
            holdAnswers(run);
            for (int i = 0; i < run.calls.size(); i++) {
                // check() alone tells that it changes something when it is refused.
                if (run.calls.get(i).errorDue() > 0 && !run.calls.get(i).name.equals("check")) {
                    holdTwins(run, i);
                }
            }
        }
        holdSentences(runs, Files.readString(Path.of("../shared/DOC.md")));
        Due.end();
    }

    private static void holdAnswers(EdgeRun run) throws ReflectiveOperationException {
        GhostTable x = new GhostTable();
        int made = 0;
        for (EdgeCall call : run.calls) {
            int answer = call.make(x);
            made += call.times;
            if (call.isHeld) {
                Due.is("[" + run.head + "] " + call.written + ":", answer, call.due);
            }
        }
        Due.holds("[" + run.head + "] at most 512 calls", made <= 512);
    }

    /** Two objects with the calls ahead of one, of which the first makes that one, too: they differ in what is told alone. */
    private static void holdTwins(EdgeRun run, int at) throws ReflectiveOperationException {
        GhostTable x = new GhostTable();
        GhostTable y = new GhostTable();
        for (int i = 0; i < at; i++) {
            run.calls.get(i).make(x);
            run.calls.get(i).make(y);
        }
        EdgeCall refused = run.calls.get(at);
        refused.make(x);
        String where = "[" + run.head + "] " + refused.written;
        for (int k = 1; k <= 5; k++) {
            Due.is(where + ", told " + k, x.told(k), y.told(k) + (k == refused.errorDue() ? refused.times : 0));
        }
        String seen = Seen.byUsingUp(x);
        String due = Seen.byUsingUp(y);
        Due.holds(where + " changes nothing:\n " + seen + "\n " + due, seen.equals(due));
    }

    // ---- the document's sentences

    private static void holdSentences(List<EdgeRun> runs, String document) {
        Map<String, List<String>> parts = sentences(document);
        Due.is("promises in the document, and the Terms", parts.size(), 41);
        for (EdgeRun run : runs) {
            boolean stands = false;
            for (String sentence : parts.getOrDefault(run.promise, List.of())) {
                stands = stands || isOf(run, run.promise, sentence);
            }
            Due.holds("the document has the sentence of [" + run.head + "]", stands);
        }
        for (Map.Entry<String, List<String>> part : parts.entrySet()) {
            for (String sentence : part.getValue()) {
                boolean hasRun = false;
                for (EdgeRun run : runs) {
                    hasRun = hasRun || isOf(run, part.getKey(), sentence);
                }
                Due.holds("a run for " + part.getKey() + ": " + sentence, hasRun);
            }
        }
    }

    /** The Terms have long sentences, so a run may be of a part of one. */
    private static boolean isOf(EdgeRun run, String promise, String sentence) {
        boolean alike = promise.equals("T") ? sentence.contains(run.sentence) : sentence.equals(run.sentence);
        return run.promise.equals(promise) && alike;
    }

    /** The sentences of each promise by its number, and of the Terms as T. */
    private static Map<String, List<String>> sentences(String document) {
        Map<String, List<String>> parts = new LinkedHashMap<>();
        for (String chapter : document.split("\n## ")) {
            if (chapter.startsWith("Terms")) {
                String terms = chapter.substring(5, chapter.indexOf("Ahead of the calls"));
                parts.put("T", split(terms.replace("```text", "").replace("```", "")));
            } else if (chapter.startsWith("Promise ")) {
                String number = chapter.substring(8, chapter.indexOf(':'));
                parts.put(number, split(chapter.substring(chapter.indexOf("`: ") + 3)));
            }
        }
        return parts;
    }

    private static List<String> split(String text) {
        List<String> sentences = new ArrayList<>();
        for (String s : text.replaceAll("\\s+", " ").trim().split("(?<=[^.])\\.( |$)")) {
            // The Terms' own numbers, 1 to 4, look like sentences.
            if (s.length() > 1) {
                sentences.add(s);
            }
        }
        return sentences;
    }
}
