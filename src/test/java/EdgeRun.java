import java.util.ArrayList;
import java.util.List;

/**
 * A run of calls on a new object, as a file of src/test/edges has it. Its head names the promise (T: the Terms), a sentence
 * of the document and, behind ##, what of it is tried; then come calls, a ; between two, each with the answer that is due
 * behind = if it is held against one, and how often it is made ahead of * if that is more than once.
 */
final class EdgeRun {
    final String promise;
    final String sentence;
    final String head;
    final List<EdgeCall> calls = new ArrayList<>();

    private EdgeRun(String head) {
        this.head = head;
        int colon = head.indexOf(": ");
        promise = head.substring(0, colon);
        sentence = head.substring(colon + 2).split(" ## ")[0];
    }

    static List<EdgeRun> read(List<String> lines) {
        List<EdgeRun> runs = new ArrayList<>();
        for (String line : lines) {
            if (line.startsWith("== ")) {
                runs.add(new EdgeRun(line.substring(3)));
            } else if (!line.isEmpty() && !line.startsWith("#")) {
                for (String call : line.split(" ; ")) {
                    runs.get(runs.size() - 1).calls.add(new EdgeCall(call));
                }
            }
        }
        return runs;
    }
}
