import java.util.ArrayList;
import java.util.List;
import java.util.function.ToIntFunction;

/**
 * An object of BinderParcels together with the calls that it has had: no test uses one for more
 * calls than the document promises answers for, and another one can be made behind the same calls.
 */
final class Subject {
    static final int MOST_CALLS = 512;

    private final BinderParcels object = new BinderParcels();
    private final List<ToIntFunction<BinderParcels>> calls = new ArrayList<>();

    private int call(ToIntFunction<BinderParcels> call) {
        if (calls.size() == MOST_CALLS) {
            throw new IllegalStateException("a test uses one object for more than " + MOST_CALLS + " calls");
        }
        calls.add(call);
        return call.applyAsInt(object);
    }

    int calls() {
        return calls.size();
    }

    /** Another object, behind the same calls. */
    Subject twin() {
        Subject twin = new Subject();
        for (ToIntFunction<BinderParcels> call : calls) {
            twin.call(call);
        }
        return twin;
    }

    int issue() {
        return call(BinderParcels::issue);
    }

    int own() {
        return call(BinderParcels::own);
    }

    int done(int owner, int parcel, boolean isCareful) {
        return call(x -> x.done(owner, parcel, isCareful));
    }

    int doAll(int owner) {
        return call(x -> x.doAll(owner));
    }

    int lose(int owner, int parcel) {
        return call(x -> x.lose(owner, parcel));
    }

    int again(int owner, int parcel) {
        return call(x -> x.again(owner, parcel));
    }

    int hand(int owner, int number, int parcel, boolean isPutIn) {
        return call(x -> x.hand(owner, number, parcel, isPutIn));
    }

    int parcel(int parcel, int what) {
        return call(x -> x.parcel(parcel, what));
    }

    int text(int number) {
        return call(x -> x.text(number));
    }

    int leaf(int owner, int number, int what) {
        return call(x -> x.leaf(owner, number, what));
    }

    int of(int owner, int what) {
        return call(x -> x.of(owner, what));
    }

    int count(int what) {
        return call(x -> x.count(what));
    }

    int ifDone(int owner, int parcel) {
        return call(x -> x.ifDone(owner, parcel));
    }

    int ifAllDone(int owner) {
        return call(x -> x.ifAllDone(owner));
    }

    int mending(int owner) {
        return call(x -> x.mending(owner));
    }

    int rightFrom(int owner) {
        return call(x -> x.rightFrom(owner));
    }

    int put(long characters) {
        return call(x -> x.put(characters));
    }

    int wipe() {
        return call(BinderParcels::wipe);
    }

    int fault() {
        return call(BinderParcels::fault);
    }

    int undo() {
        return call(BinderParcels::undo);
    }

    int save(int slot) {
        return call(x -> x.save(slot));
    }

    int restore(int slot) {
        return call(x -> x.restore(slot));
    }
}
