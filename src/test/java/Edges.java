import java.io.IOException;
import java.nio.charset.StandardCharsets;
import java.nio.file.Files;
import java.nio.file.Path;
import java.util.List;
import java.util.function.Supplier;
import java.util.function.ToLongFunction;

/** Edges that the document names: each test of one names its promise and its sentence, and asks inside and outside. */
final class Edges {
    private static final int PROMISES = 37;
    private final Check check;
    private final String name;
    private final String doc;
    private final int[] edges = new int[PROMISES + 1];
    private String edge = "";
    private int inside = 0;
    private int outside = 0;

    Edges(String name) throws IOException {
        this.name = name;
        check = new Check(name);
        doc = plain(Files.readString(Path.of("../shared/DOC.md"), StandardCharsets.UTF_8));
    }

    private static String plain(String text) {
        return text.replaceAll("\\s+", " ");
    }

    /** What follows is of this sentence of this promise (or of what stands ahead of all promises). */
    void edge(int promise, String sentence) {
        close();
        edge = "promise " + promise + ", \"" + sentence + "\"";
        edges[promise]++;
        inside = 0;
        outside = 0;
        int here = doc.indexOf("## Promise " + promise + ":");
        int next = doc.indexOf("##", here + 2);
        String words = doc.substring(0, doc.indexOf("## Promise 1:")) + doc.substring(here, next);
        if (!words.contains(plain(sentence))) {
            check.due(edge + " is no sentence of it", 0, 1);
        }
    }

    private void close() {
        if (!edge.isEmpty() && (inside == 0 || outside == 0)) {
            check.due(edge + " is asked inside " + inside + ", outside " + outside + " times", 0, 1);
        }
    }

    /** A call just inside the boundary. */
    void in(String call, long got, long want) {
        inside++;
        check.due(edge + ": " + call, got, want);
    }

    /** A call just outside the boundary. */
    void out(String call, long got, long want) {
        outside++;
        check.due(edge + ": " + call, got, want);
    }

    /** A call that is refused, outside the boundary: behind it all is as in a kitchen without that call. */
    void refused(String call, Supplier<LittleLeft> kitchen, ToLongFunction<LittleLeft> of, long want) {
        outside++;
        changesNothing(call, kitchen, of, want);
    }

    /** The same of a kitchen in which there is something of each promise. */
    void refused(String call, ToLongFunction<LittleLeft> of, long want) {
        refused(call, Whole::kitchen, of, want);
    }

    /** A call just inside the boundary that changes nothing, too. */
    void unchanged(String call, Supplier<LittleLeft> kitchen, ToLongFunction<LittleLeft> of, long want) {
        inside++;
        changesNothing(call, kitchen, of, want);
    }

    private void changesNothing(String call, Supplier<LittleLeft> kitchen, ToLongFunction<LittleLeft> of, long want) {
        LittleLeft x = kitchen.get();
        check.due(edge + ": " + call, of.applyAsLong(x), want);
        List<Long> with = Whole.seen(x);
        List<Long> without = Whole.seen(kitchen.get());
        int otherwise = 0;
        while (otherwise < with.size() && otherwise < without.size()
            && with.get(otherwise).equals(without.get(otherwise))) {
            otherwise++;
        }
        check.due(edge + ": " + call + " changes nothing (alike are)", otherwise, without.size());
        check.due(edge + ": " + call + " changes nothing (seen are)", with.size(), without.size());
    }

    /** Ends the run; each of these promises has an edge then. */
    void end(int... promises) {
        close();
        for (int promise : promises) {
            if (edges[promise] == 0) {
                check.due(name + " has an edge of promise " + promise, 0, 1);
            }
        }
        check.end();
    }
}
