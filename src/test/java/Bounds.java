import java.util.List;
import java.util.NoSuchElementException;
import java.util.function.IntFunction;

/**
 * Tests of single sentences of the document: what stands just inside a limit and just outside it, the empty and the
 * full, what comes behind the last place of a row, and that a refused call changes nothing.
 */
abstract class Bounds {
    static final Class<IndexOutOfBoundsException> INDEX = IndexOutOfBoundsException.class;
    static final Class<IllegalArgumentException> ARGUMENT = IllegalArgumentException.class;
    static final Class<IllegalStateException> STATE = IllegalStateException.class;
    static final Class<NoSuchElementException> ELEMENT = NoSuchElementException.class;
    static final Class<UnsupportedOperationException> UNSUPPORTED = UnsupportedOperationException.class;
    static final Class<ArithmeticException> ARITHMETIC = ArithmeticException.class;

    // Far outside; a number that is cut to fewer bits, or taken modulo 32, would look like a small one.
    private static final int[] FAR_OUTSIDE = {Integer.MIN_VALUE, -65536, -256, -32, -10, 32, 64, 128, 256, 65536,
        1 << 30, Integer.MAX_VALUE};

    private final Check check;

    Bounds(Check check) {
        this.check = check;
    }

    /** A call, or several, with one answer. */
    interface Question {
        Object to(TramNetwork network);
    }

    /** A call with a number that is near a limit. */
    interface Numbered {
        Object to(TramNetwork network, int number);
    }

    /** Each is for one sentence, which it names at its beginning. */
    abstract Runnable[] tests();

    final void run() {
        for (Runnable test : tests()) {
            try {
                test.run();
            } catch (RuntimeException e) {
                check.complain("a call threw " + e + " at " + placeOf(e));
            }
        }
    }

    private static String placeOf(RuntimeException e) {
        for (StackTraceElement element : e.getStackTrace()) {
            if (element.getClassName().startsWith("Bounds")) {
                return element.toString();
            }
        }
        return "an unknown place";
    }

    /** The answer, or the name of the exception. */
    static String outcome(TramNetwork network, Question question) {
        try {
            return String.valueOf(question.to(network));
        } catch (RuntimeException e) {
            return e.getClass().getSimpleName();
        }
    }

    /** All that is tested from here on is tested for this sentence, in "Terms" or in a promise, "P1" to "P58". */
    final void sentence(String place, String words) {
        check.sentence(place, words);
    }

    final void same(String call, Object due, Object got) {
        check.same(call, String.valueOf(due), String.valueOf(got));
    }

    final void answers(Scene scene, String call, Object due, Question question) {
        same(scene + ": " + call, due, outcome(scene.make(), question));
    }

    /** The call throws an exception of exactly this class. */
    final void throwsOnly(Scene scene, String call, Class<? extends RuntimeException> due, Question question) {
        answers(scene, call, due.getSimpleName(), question);
    }

    /** The call throws an exception of exactly this class, and nothing has changed. */
    final void refuses(Scene scene, String call, Class<? extends RuntimeException> due, Question question) {
        throwsOnly(scene, call, due, question);
        Scene after = scene.then(call + " refused", network -> outcome(network, question));
        alike("after the refused " + call, scene.portrait(), after);
    }

    /** The text is refused, which empties the buffer, and nothing else has changed but what the text stores. */
    final void refusesText(Scene scene, String text, Class<? extends RuntimeException> due) {
        Scene typed = scene.thenText(text);
        throwsOnly(typed, "execute()", due, TramNetwork::execute);
        Scene after = typed.then("refused", network -> outcome(network, TramNetwork::execute));
        same(after + ": all but the buffer", "",
            Portrait.difference(Portrait.withoutBuffer(scene), Portrait.withoutBuffer(after)));
        answers(after, "type('x') into the empty buffer", 1, network -> network.type('x'));
    }

    final void alike(String what, List<String> due, Scene after) {
        same(after + ": " + what, "", Portrait.difference(due, after.portrait()));
    }

    /**
     * Of something that is numbered, with none, one, some and as many of them as there can be: -1 is refused, 0 is
     * there unless there are none, the last number is there, and the number behind it is refused.
     */
    final void numbers(String call, IntFunction<Scene> scenes, int most, Numbered question) {
        for (int count = 0; count <= most; count++) {
            Scene scene = scenes.apply(count);
            for (int number : FAR_OUTSIDE) {
                throwsOnly(scene, call + " with " + number, INDEX, network -> question.to(network, number));
            }
            for (int number = count; number <= most + 1; number++) {
                int missing = number;
                throwsOnly(scene, call + " with " + missing, INDEX, network -> question.to(network, missing));
            }
            for (int number = 0; number < count; number++) {
                isThere(scene, call, number, question);
            }
            if (count <= 1 || count == most) {
                int behind = count;
                refuses(scene, call + " with -1", INDEX, network -> question.to(network, -1));
                refuses(scene, call + " with " + behind, INDEX, network -> question.to(network, behind));
            }
        }
    }

    private void isThere(Scene scene, String call, int number, Numbered question) {
        String got = outcome(scene.make(), network -> question.to(network, number));
        if (got.equals(INDEX.getSimpleName())) {
            check.complain(scene + ": " + call + " with " + number + " is refused");
        }
    }
}
