import java.util.List;

/** done. */
public final class Promise04Test {
    public static void main(String[] args) {
        withCare();
        carelessly();
        theOrdersOfThisParcelAlone();
        fullBinderWithCare();
        fullBinderCarelessly();
        errors();
        isAChange();
        Check.finish();
    }

    /** An owner with nothing, for whom these parcels wait. */
    private static BinderParcels waiting(String... texts) {
        BinderParcels x = new BinderParcels();
        x.own();
        for (String text : texts) {
            Check.issue(x, text);
        }
        return x;
    }

    private static void withCare() {
        BinderParcels x = waiting("+1.0,+2.0,+3.0", "+2.0,-3.0,-4.0");
        x.hand(0, 20, 0, true);
        x.hand(0, 20, 1, true);
        x.hand(0, 30, 0, true);
        x.hand(0, 30, 0, true);
        Check.due("done(0, 0, true): of several leaves one is left", x.done(0, 0, true), 3);
        Check.due("2.0 is of issue 0", x.leaf(0, 20, 2), 0);
        Check.due("0 no longer waits", x.of(0, 1), 2);
        x.hand(0, 30, 1, true);
        Check.due("done(0, 1, true): all leaves go", x.done(0, 1, true), 2);
        Check.due("2.0 is of issue 1", x.leaf(0, 20, 1), 1);
        Check.due("one leaf with 2.0", x.leaf(0, 20, 0), 1);
        Check.due("no leaf with 3.0", x.leaf(0, 30, 0), 0);
        Check.due("1.0 stays", x.leaf(0, 10, 1), 0);
        Check.due("nothing waits", x.of(0, 1), 0);
        Check.due("nothing is lost", x.of(0, 2), 0);
    }

    private static void carelessly() {
        BinderParcels x = waiting("+1.0,+2.0", "+2.0,+1.0", "-2.0,-3.0");
        Check.due("done(0, 1, false)", x.done(0, 1, false), 2);
        Check.due("done(0, 0, false): others stay", x.done(0, 0, false), 4);
        Check.due("earliest 2.0", x.leaf(0, 20, 1), 0);
        Check.due("latest 2.0", x.leaf(0, 20, 2), 1);
        Check.due("done(0, 2, false): one goes", x.done(0, 2, false), 3);
        Check.due("one 2.0 is left", x.leaf(0, 20, 0), 1);
        Check.due("the earliest issue went", x.leaf(0, 20, 1), 1);
        Check.due("1.0 stays", x.leaf(0, 10, 0), 2);
        x.again(0, 2);
        Check.due("again: the other one goes", x.done(0, 2, false), 2);
        x.again(0, 2);
        Check.due("again: there is none", x.done(0, 2, false), 2);
        x.again(0, 1);
        Check.due("the same leaf a second time", x.done(0, 1, false), 4);
        Check.due("two of the same issue", x.leaf(0, 20, 0), 1);
        Check.due("1.0 three times", x.leaf(0, 10, 0), 3);
        Check.due("nothing waits", x.of(0, 1), 0);
    }

    private static void theOrdersOfThisParcelAlone() {
        for (int i = 0; i < 2; i++) {
            boolean isCareful = i == 0;
            BinderParcels x = waiting(Check.row('+', 20, 8));
            x.undo();
            Check.issue(x, "+1.0");
            Check.due("done behind a longer one that was undone", x.done(0, 0, isCareful), 1);
            x = waiting(Check.row('+', 20, 8), "+3.0");
            Check.due("done ahead of another one", x.done(0, 0, isCareful), 8);
            Check.due("the other one's number", x.leaf(0, 30, 0), 0);
        }
    }

    private static BinderParcels full() {
        BinderParcels x = new BinderParcels();
        Check.issueRows(x, 7);
        x.own();
        Check.issue(x, "+9.0,+1.0,-1.1,+9.1");
        Check.due("a 57th leaf", x.hand(0, 10, 3, true), 57);
        Check.due("a 58th leaf", x.hand(0, 99, 3, true), 58);
        Check.due("a 59th leaf", x.hand(0, 99, 3, true), 59);
        Check.due("a 60th leaf", x.hand(0, 99, 2, true), 60);
        return x;
    }

    private static void fullBinderWithCare() {
        BinderParcels x = full();
        Check.due("done with care, full", x.done(0, 7, true), 59);
        Check.due("9.0 did not come", x.leaf(0, 90, 0), 0);
        Check.due("1.0 came for its old leaves", x.leaf(0, 10, 1), 7);
        Check.due("one 1.0", x.leaf(0, 10, 0), 1);
        Check.due("1.1 went", x.leaf(0, 11, 0), 0);
        Check.due("9.1 came", x.leaf(0, 91, 0), 1);
        Check.due("0 to 9.9 stay", x.leaf(0, 99, 0), 3);
    }

    private static void fullBinderCarelessly() {
        BinderParcels x = full();
        Check.due("done carelessly, full", x.done(0, 7, false), 60);
        Check.due("9.0 did not come", x.leaf(0, 90, 0), 0);
        Check.due("1.0 did not come", x.leaf(0, 10, 2), 3);
        Check.due("1.0 stays as it was", x.leaf(0, 10, 0), 2);
        Check.due("1.1 went", x.leaf(0, 11, 0), 0);
        Check.due("9.1 came", x.leaf(0, 91, 1), 7);
    }

    private static void errors() {
        BinderParcels x = waiting("+1.0", "+2.0");
        x.own();
        fails(x, -1, 0, Check.NO_SUCH);
        fails(x, 2, 0, Check.NO_SUCH);
        fails(x, 8, 0, Check.NO_SUCH);
        fails(x, 0, -1, Check.NO_SUCH);
        fails(x, 0, 2, Check.NO_SUCH);
        fails(x, 0, 32, Check.NO_SUCH);
        fails(x, Integer.MAX_VALUE, Integer.MIN_VALUE, Check.NO_SUCH);
        fails(x, 1, 0, Check.NOT_POSSIBLE);
        x.done(0, 0, true);
        fails(x, 0, 0, Check.NOT_POSSIBLE);
        x.lose(0, 1);
        fails(x, 0, 1, Check.NOT_POSSIBLE);
    }

    private static void fails(BinderParcels x, int owner, int parcel, int error) {
        List<Integer> before = Check.wholePicture(x);
        Check.due("done(" + owner + ", " + parcel + ", true)", x.done(owner, parcel, true), error);
        Check.due("done(" + owner + ", " + parcel + ", false)", x.done(owner, parcel, false), error);
        Check.same("the failed done(" + owner + ", " + parcel + ", ..)", Check.wholePicture(x), before);
    }

    private static void isAChange() {
        BinderParcels x = waiting("+1.0");
        List<Integer> before = Check.picture(x);
        int changes = x.count(8);
        x.done(0, 0, false);
        Check.due("count(8)", x.count(8), changes + 1);
        Check.due("undo()", x.undo(), changes);
        Check.same("undo() of done", Check.picture(x), before);
    }
}
