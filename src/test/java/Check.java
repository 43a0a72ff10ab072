import java.util.Map;
import java.util.TreeSet;
import java.util.function.Consumer;
import java.util.function.ToIntFunction;

/** What the tests look at: answers that are due, and calls that change something or nothing. */
final class Check {
    static final int NO_SUCH = -1, BAD_VALUE = -2, BAD_TEXT = -3, TOO_MANY = -4, NOT_POSSIBLE = -5, NONE = -6;

    private static int wrong = 0;

    private Check() {
    }

    static void due(String call, long got, long want) {
        if (got != want) {
            wrong++;
            System.out.println(call + " answered " + got + ", due is " + want);
        }
    }

    /** Two pictures are the same. */
    static void same(String behind, Map<String, Integer> got, Map<String, Integer> want) {
        if (!got.equals(want)) {
            wrong++;
            TreeSet<String> questions = new TreeSet<>(got.keySet());
            questions.addAll(want.keySet());
            questions.removeIf(question -> got.containsKey(question) && got.get(question).equals(want.get(question)));
            String first = questions.first();
            System.out.println("behind " + behind + ", " + questions.size() + " answers are not as due: "
                + first + " answered " + got.get(first) + ", due is " + want.get(first));
        }
    }

    /** A call fails with an error, and changes nothing. */
    static void fails(Subject x, String name, ToIntFunction<Subject> call, int error) {
        Subject failed = x.twin();
        due(name, call.applyAsInt(failed), error);
        same(name, Picture.whole(failed), Picture.whole(x));
    }

    /** A call changes nothing, whatever it answers. */
    static void changesNothing(Subject x, String name, Consumer<Subject> call) {
        Subject called = x.twin();
        call.accept(called);
        same(name, Picture.whole(called), Picture.whole(x));
    }

    /** A call is a change: the state before it is recorded, and undo brings it back. */
    static void isChange(Subject x, String name, Consumer<Subject> call) {
        Subject changed = x.twin();
        int changes = changed.count(8);
        call.accept(changed);
        due(name + ", then count(8)", changed.count(8), Math.min(6, changes + 1));
        due(name + ", then undo()", changed.undo(), Math.min(5, changes));
        same(name + ", undone", Picture.of(changed), Picture.of(x));
    }

    static void threw(Throwable thrown) {
        wrong++;
        thrown.printStackTrace(System.out);
    }

    static int wrong() {
        return wrong;
    }

    static void finish() {
        if (wrong != 0) {
            System.out.println(wrong + " answers are not as due");
            System.exit(1);
        }
    }
}
