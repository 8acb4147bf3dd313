import java.util.Map;
import java.util.Set;
import java.util.TreeMap;
import java.util.TreeSet;
import java.util.function.Supplier;

/** Counts and prints the answers that are not as due. */
final class Check {
    private int wrong;
    private String place = "";
    private String words = "";
    private final Map<String, Set<String>> sentences = new TreeMap<>();

    /** All that is checked from here on is checked for this sentence of the document. */
    void sentence(String place, String words) {
        this.place = place;
        this.words = words;
        sentences.computeIfAbsent(place, ignored -> new TreeSet<>()).add(words);
    }

    /** The sentences so far, by the place where they stand. */
    Map<String, Set<String>> sentences() {
        return sentences;
    }

    void same(String call, long due, long got) {
        if (got != due) {
            complain(call + " answered " + got + ", due is " + due);
        }
    }

    void same(String call, String due, String got) {
        if (!got.equals(due)) {
            complain(call + " answered " + got + ", due is " + due);
        }
    }

    void exact(String call, double due, double got) {
        if (got != due) {
            complain(call + " answered " + got + ", due is " + due);
        }
    }

    void yes(String call, boolean got) {
        if (!got) {
            complain(call + " answered false, due is true");
        }
    }

    void no(String call, boolean got) {
        if (got) {
            complain(call + " answered true, due is false");
        }
    }

    /** The call must throw an exception of exactly this class. */
    void refused(String call, Class<? extends RuntimeException> due, Supplier<?> supplier) {
        try {
            complain(call + " answered " + supplier.get() + ", due is " + due.getSimpleName());
        } catch (RuntimeException e) {
            if (e.getClass() != due) {
                complain(call + " threw " + e + ", due is " + due.getSimpleName());
            }
        }
    }

    void complain(String text) {
        wrong++;
        System.out.println(place.isEmpty() ? text : place + " \"" + words + "\" " + text);
    }

    int wrongAnswers() {
        return wrong;
    }

    void finish() {
        System.out.println(wrong == 0 ? "as due" : wrong + " answers are not as due");
        if (wrong != 0) {
            System.exit(1);
        }
    }
}
