import java.util.function.Supplier;
import java.util.function.ToLongFunction;

/** What is taken and what is refused, told under the sentence of the document that says so. */
final class Edge {
    static final int NONE = AirWatch.NONE;
    static final int LOW = Integer.MIN_VALUE;
    static final int HIGH = Integer.MAX_VALUE;

    private static String sentence = "";

    private Edge() {
    }

    /** A call with one argument left open. */
    interface Call {
        long of(Watch w, int value);
    }

    static void sentence(String words) {
        sentence = words;
    }

    static void due(String call, long got, long want) {
        Check.due("\"" + sentence + "\" " + call, got, want);
    }

    /** The call answers NONE, and nothing has changed by it. */
    static void refused(String call, Supplier<Watch> scene, ToLongFunction<Watch> made) {
        refused(call, scene, made, NONE);
    }

    /** The call answers false, and nothing has changed by it. */
    static void denied(String call, Supplier<Watch> scene, ToLongFunction<Watch> made) {
        refused(call, scene, made, 0);
    }

    private static void refused(String call, Supplier<Watch> scene, ToLongFunction<Watch> made, long refusal) {
        Watch asked = scene.get();
        due(call, made.applyAsLong(asked), refusal);
        View.whole(asked).dueAs("\"" + sentence + "\" behind " + call, View.whole(scene.get()));
    }

    /** From the least to the greatest the value is taken, the ones beside them and far off are refused. */
    static void range(String name, int least, int greatest, Supplier<Watch> scene, Call call) {
        range(name, least, greatest, scene, call, NONE);
    }

    /** As range, for a call that answers false for what it refuses. */
    static void rangeOrFalse(String name, int least, int greatest, Supplier<Watch> scene, Call call) {
        range(name, least, greatest, scene, call, 0);
    }

    private static void range(String name, int least, int greatest, Supplier<Watch> scene, Call call, long refusal) {
        for (int value : new int[] {least, greatest}) {
            boolean taken = call.of(scene.get(), value) != refusal;
            due(name + ", v = " + value + " is taken", taken ? 1 : 0, 1);
        }
        // Values that a byte, a short or a sum that wraps around would take for the least one.
        int[] wrong = {least - 1, greatest + 1, LOW, HIGH, least + 65536, least + 65536 * 32767, LOW + least};
        for (int value : wrong) {
            if (value < least || value > greatest) {
                refused(name + ", v = " + value, scene, w -> call.of(w, value), refusal);
            }
        }
    }
}
