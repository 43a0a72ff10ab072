import java.util.List;

/** lose. */
public final class Promise06Test {
    public static void main(String[] args) {
        BinderParcels x = new BinderParcels();
        x.own();
        x.own();
        Check.issue(x, "+1.0");
        Check.issue(x, "+2.0");
        Check.issue(x, "+3.0");
        Check.due("lose(0, 1)", x.lose(0, 1), 2);
        Check.due("those that wait", x.of(0, 1), 5);
        Check.due("those that are lost", x.of(0, 2), 2);
        Check.due("the other owner's wait", x.of(1, 1), 7);
        Check.due("owners for whom it waits", x.parcel(1, 9), 2);
        Check.due("owners who lost it", x.parcel(1, 10), 1);
        Check.due("leaves", x.of(0, 0), 0);
        Check.due("lose(0, 0)", x.lose(0, 0), 1);
        Check.due("lose(0, 2)", x.lose(0, 2), 0);
        Check.due("all are lost", x.of(0, 2), 7);
        Check.due("undo()", x.undo(), 5);
        Check.due("one waits", x.of(0, 1), 4);
        Check.due("two are lost", x.of(0, 2), 3);

        fails(x, -1, 0, Check.NO_SUCH);
        fails(x, 2, 0, Check.NO_SUCH);
        fails(x, 0, -1, Check.NO_SUCH);
        fails(x, 0, 3, Check.NO_SUCH);
        fails(x, 0, 34, Check.NO_SUCH);
        fails(x, 0, 0, Check.NOT_POSSIBLE);
        x.done(0, 2, true);
        fails(x, 0, 2, Check.NOT_POSSIBLE);
        x.own();
        fails(x, 2, 2, Check.NOT_POSSIBLE);
        Check.finish();
    }

    private static void fails(BinderParcels x, int owner, int parcel, int error) {
        List<Integer> before = Check.wholePicture(x);
        Check.due("lose(" + owner + ", " + parcel + ")", x.lose(owner, parcel), error);
        Check.same("the failed lose(" + owner + ", " + parcel + ")", Check.wholePicture(x), before);
    }
}
