import java.util.List;

/** again. */
public final class Promise07Test {
    public static void main(String[] args) {
        BinderParcels x = new BinderParcels();
        x.own();
        Check.issue(x, "+1.0");
        Check.issue(x, "+2.0");
        Check.issue(x, "+3.0");
        x.own();
        x.lose(0, 1);
        Check.due("again(0, 1): a lost one", x.again(0, 1), 3);
        Check.due("it waits", x.of(0, 1), 7);
        Check.due("it is no longer lost", x.of(0, 2), 0);
        Check.due("nobody lost it", x.parcel(1, 10), 0);
        Check.due("done", x.done(0, 1, true), 1);
        Check.due("again(0, 1): a done one", x.again(0, 1), 3);
        Check.due("its leaf stays", x.of(0, 0), 1);
        Check.due("again(1, 2): one older than the owner", x.again(1, 2), 1);
        Check.due("owners for whom it waits", x.parcel(2, 9), 3);
        Check.due("undo()", x.undo(), 5);
        Check.due("owners for whom it waits then", x.parcel(2, 9), 1);
        x.lose(0, 2);
        x.lose(0, 1);
        Check.due("again(0, 2) of two lost ones", x.again(0, 2), 2);
        Check.due("the other one stays lost", x.of(0, 2), 2);

        fails(x, -1, 0, Check.NO_SUCH);
        fails(x, 2, 0, Check.NO_SUCH);
        fails(x, 0, -1, Check.NO_SUCH);
        fails(x, 0, 3, Check.NO_SUCH);
        fails(x, 1, 16, Check.NO_SUCH);
        fails(x, 0, 0, Check.NOT_POSSIBLE);
        Check.finish();
    }

    private static void fails(BinderParcels x, int owner, int parcel, int error) {
        List<Integer> before = Check.wholePicture(x);
        Check.due("again(" + owner + ", " + parcel + ")", x.again(owner, parcel), error);
        Check.same("the failed again(" + owner + ", " + parcel + ")", Check.wholePicture(x), before);
    }
}
