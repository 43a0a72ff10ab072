import java.util.List;

/** own. */
public final class Promise03Test {
    public static void main(String[] args) {
        BinderParcels x = new BinderParcels();
        Check.due("own() ahead of any parcel", x.own(), 0);
        Check.issue(x, "+1.0,+2.0");
        Check.issue(x, "+2.0,+3.0");
        Check.due("own() behind two parcels", x.own(), 1);
        Check.due("leaves of 0", x.of(0, 0), 0);
        Check.due("leaves of 1", x.of(1, 0), 3);
        Check.due("issue of its 2.0", x.leaf(1, 20, 1), 1);
        Check.due("its binder is right", x.of(1, 6), 1);
        Check.due("older parcels count as done", x.of(1, 1), 0);
        Check.due("and are not lost", x.of(1, 2), 0);
        Check.due("they can't be done", x.done(1, 0, true), Check.NOT_POSSIBLE);
        Check.issue(x, "-1.0");
        Check.due("its binder stays", x.of(1, 0), 3);
        Check.due("later ones wait", x.of(1, 1), 4);

        for (int owner = 2; owner < 8; owner++) {
            Check.due("own() " + owner, x.own(), owner);
        }
        List<Integer> before = Check.wholePicture(x);
        Check.due("the 9th own()", x.own(), Check.TOO_MANY);
        Check.same("the failed own()", Check.wholePicture(x), before);
        Check.due("undo()", x.undo(), 5);
        Check.due("owners then", x.count(1), 7);
        Check.due("owner 7 is gone", x.of(7, 0), Check.NO_SUCH);
        Check.due("own() again", x.own(), 7);
        isNewBehindUndo();
        Check.finish();
    }

    private static void isNewBehindUndo() {
        BinderParcels x = new BinderParcels();
        x.own();
        Check.issue(x, "+1.0");
        Check.issue(x, "+2.0");
        x.lose(0, 0);
        for (int i = 0; i < 4; i++) {
            x.undo();
        }
        Check.due("no owners", x.count(1), 0);
        Check.due("own() behind undo()", x.own(), 0);
        Check.due("nothing waits", x.of(0, 1), 0);
        Check.due("nothing is lost", x.of(0, 2), 0);
        Check.due("no leaves", x.of(0, 0), 0);
    }
}
