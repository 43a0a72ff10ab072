import java.util.LinkedHashMap;
import java.util.Map;
import java.util.function.Consumer;
import java.util.function.ToIntFunction;

/** What can be seen of an object. Its twins are asked, so that the object has no calls of it. */
final class Picture {
    private final Map<String, Integer> answers = new LinkedHashMap<>();
    private Subject pictured;
    private Subject asked;
    private String heading = "";

    private Picture(Subject x) {
        show(x);
    }

    /** The parcels, the text and the owners: all that undo, save and restore are about. */
    static Map<String, Integer> of(Subject x) {
        Picture picture = new Picture(x);
        picture.state();
        return picture.answers;
    }

    /** The same with the pad, the history and the slots: all that an error may not change. */
    static Map<String, Integer> whole(Subject x) {
        Picture picture = new Picture(x);
        picture.state();
        picture.pad();
        int changes = picture.ask("count(8)", y -> y.count(8));
        for (int i = 1; i <= changes; i++) {
            int undone = i;
            picture.behind(i + " times undo(): ", x, y -> undo(y, undone));
        }
        picture.behind("restore(0): ", x, y -> y.restore(0));
        picture.behind("restore(1): ", x, y -> y.restore(1));
        return picture.answers;
    }

    /** The pad alone: its length, its fault, and the orders of the parcel that it would be. */
    static Map<String, Integer> ofPad(Subject x) {
        Picture picture = new Picture(x);
        picture.pad();
        return picture.answers;
    }

    private static void undo(Subject x, int times) {
        for (int i = 0; i < times; i++) {
            x.undo();
        }
    }

    private void show(Subject x) {
        pictured = x;
        asked = x.twin();
    }

    private int ask(String call, ToIntFunction<Subject> question) {
        if (asked.calls() == Subject.MOST_CALLS) {
            asked = pictured.twin();
        }
        int answer = question.applyAsInt(asked);
        answers.put(heading + call, answer);
        return answer;
    }

    private void behind(String name, Subject x, Consumer<Subject> change) {
        Subject changed = x.twin();
        change.accept(changed);
        show(changed);
        heading = name;
        state();
        heading = "";
        show(x);
    }

    private void state() {
        for (int i = 0; i <= 6; i++) {
            int what = i;
            ask("count(" + what + ")", x -> x.count(what));
        }
        for (int i = 10; i <= 99; i++) {
            int number = i;
            ask("text(" + number + ")", x -> x.text(number));
        }
        int parcels = answers.get(heading + "count(0)");
        for (int parcel = 0; parcel < parcels; parcel++) {
            parcel(parcel);
        }
        int owners = answers.get(heading + "count(1)");
        for (int owner = 0; owner < owners; owner++) {
            owner(owner);
        }
    }

    private void parcel(int parcel) {
        for (int i = 0; i <= 10; i++) {
            int what = i;
            ask("parcel(" + parcel + ", " + what + ")", x -> x.parcel(parcel, what));
        }
    }

    private void owner(int owner) {
        for (int i = 0; i <= 7; i++) {
            int what = i;
            ask("of(" + owner + ", " + what + ")", x -> x.of(owner, what));
        }
        for (int i = 10; i <= 99; i++) {
            int number = i;
            int leaves = ask("leaf(" + owner + ", " + number + ", 0)", x -> x.leaf(owner, number, 0));
            if (leaves > 0) {
                ask("leaf(" + owner + ", " + number + ", 1)", x -> x.leaf(owner, number, 1));
                ask("leaf(" + owner + ", " + number + ", 2)", x -> x.leaf(owner, number, 2));
            }
        }
    }

    private void pad() {
        ask("count(7)", x -> x.count(7));
        ask("fault()", x -> x.fault());
        Subject issued = pictured.twin();
        int parcel = issued.issue();
        answers.put("issue()", parcel);
        for (int what = 0; what <= 8; what++) {
            answers.put("issue(): parcel(" + parcel + ", " + what + ")", issued.parcel(parcel, what));
        }
    }
}
