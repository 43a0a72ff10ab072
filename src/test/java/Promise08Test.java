import java.util.List;

/** hand. */
public final class Promise08Test {
    public static void main(String[] args) {
        puttingIn();
        takingOut();
        fullBinder();
        errors();
        Check.finish();
    }

    private static BinderParcels withParcels() {
        BinderParcels x = new BinderParcels();
        x.own();
        x.own();
        Check.issue(x, "+1.0");
        Check.issue(x, "+2.0");
        Check.issue(x, "+3.0");
        return x;
    }

    private static void puttingIn() {
        BinderParcels x = withParcels();
        Check.due("the lowest number", x.hand(0, 10, 2, true), 1);
        Check.due("the highest number", x.hand(0, 99, 0, true), 2);
        Check.due("another issue", x.hand(0, 10, 0, true), 3);
        Check.due("the same leaf again", x.hand(0, 10, 0, true), 4);
        Check.due("three with 1.0", x.leaf(0, 10, 0), 3);
        Check.due("the earliest", x.leaf(0, 10, 1), 0);
        Check.due("the latest", x.leaf(0, 10, 2), 2);
        Check.due("what waits stays", x.of(0, 1), 7);
        Check.due("the other owner", x.of(1, 0), 0);
        Check.due("the text", x.count(2), 3);
        Check.due("undo()", x.undo(), 5);
        Check.due("two with 1.0", x.leaf(0, 10, 0), 2);
    }

    private static void takingOut() {
        BinderParcels x = withParcels();
        x.hand(0, 50, 0, true);
        x.hand(0, 50, 1, true);
        x.hand(0, 50, 1, true);
        x.hand(0, 51, 1, true);
        Check.due("one of two", x.hand(0, 50, 1, false), 3);
        Check.due("two with 5.0", x.leaf(0, 50, 0), 2);
        Check.due("the latest", x.leaf(0, 50, 2), 1);
        Check.due("undo()", x.undo(), 5);
        Check.due("three with 5.0", x.leaf(0, 50, 0), 3);
        x.hand(0, 50, 1, false);
        Check.due("the other one", x.hand(0, 50, 1, false), 2);
        Check.due("the latest then", x.leaf(0, 50, 2), 0);
        fails(x, 0, 50, 1, false, Check.NOT_POSSIBLE);
        fails(x, 0, 50, 2, false, Check.NOT_POSSIBLE);
        fails(x, 0, 51, 0, false, Check.NOT_POSSIBLE);
        fails(x, 0, 49, 1, false, Check.NOT_POSSIBLE);
        fails(x, 1, 50, 0, false, Check.NOT_POSSIBLE);
        Check.due("5.1", x.hand(0, 51, 1, false), 1);
        Check.due("the last leaf", x.hand(0, 50, 0, false), 0);
        fails(x, 0, 50, 0, false, Check.NOT_POSSIBLE);
    }

    private static void fullBinder() {
        BinderParcels x = withParcels();
        for (int i = 1; i <= 60; i++) {
            Check.due("leaf " + i, x.hand(0, 40, i % 3, true), i);
        }
        fails(x, 0, 40, 0, true, Check.NOT_POSSIBLE);
        fails(x, 0, 99, 2, true, Check.NOT_POSSIBLE);
        fails(x, 0, 99, 2, false, Check.NOT_POSSIBLE);
        Check.due("a leaf is taken out of a full binder", x.hand(0, 40, 2, false), 59);
        Check.due("and one put in for it", x.hand(0, 10, 2, true), 60);
        Check.due("another binder has room", x.hand(1, 10, 2, true), 1);
    }

    private static void errors() {
        BinderParcels x = withParcels();
        for (int i = 0; i < 2; i++) {
            boolean isPutIn = i == 0;
            fails(x, -1, 10, 0, isPutIn, Check.NO_SUCH);
            fails(x, 2, 10, 0, isPutIn, Check.NO_SUCH);
            fails(x, 0, 10, -1, isPutIn, Check.NO_SUCH);
            fails(x, 0, 10, 3, isPutIn, Check.NO_SUCH);
            fails(x, 0, 9, 3, isPutIn, Check.NO_SUCH);
            fails(x, 2, 100, 0, isPutIn, Check.NO_SUCH);
            fails(x, 0, 9, 0, isPutIn, Check.BAD_VALUE);
            fails(x, 0, 100, 0, isPutIn, Check.BAD_VALUE);
            fails(x, 0, Integer.MIN_VALUE, 0, isPutIn, Check.BAD_VALUE);
            fails(x, 0, Integer.MAX_VALUE, 0, isPutIn, Check.BAD_VALUE);
        }
    }

    private static void fails(BinderParcels x, int owner, int number, int parcel, boolean isPutIn, int error) {
        String call = "hand(" + owner + ", " + number + ", " + parcel + ", " + isPutIn + ")";
        List<Integer> before = Check.wholePicture(x);
        Check.due(call, x.hand(owner, number, parcel, isPutIn), error);
        Check.same("the failed " + call, Check.wholePicture(x), before);
    }
}
