import java.util.List;

/** doAll. */
public final class Promise05Test {
    public static void main(String[] args) {
        BinderParcels x = new BinderParcels();
        x.own();
        x.own();
        Check.issue(x, "+1.0,+2.0,+3.0");
        Check.issue(x, "+1.0,-2.0,+4.0");
        Check.issue(x, "+2.0,-4.0");
        Check.issue(x, "+3.0");
        x.lose(0, 1);
        x.hand(0, 30, 0, true);
        x.hand(0, 30, 0, true);
        Check.due("doAll(0): three wait", x.doAll(0), 3);
        Check.due("leaves", x.of(0, 0), 3);
        Check.due("1.0: the lost one is not done", x.leaf(0, 10, 1), 0);
        Check.due("2.0: the later one counts", x.leaf(0, 20, 1), 2);
        Check.due("3.0: with care", x.leaf(0, 30, 0), 1);
        Check.due("3.0: the latest", x.leaf(0, 30, 1), 3);
        Check.due("nothing waits", x.of(0, 1), 0);
        Check.due("lost stays lost", x.of(0, 2), 2);
        Check.due("the other owner's wait", x.of(1, 1), 15);
        Check.due("the other owner's leaves", x.of(1, 0), 0);
        Check.due("doAll(0): none waits", x.doAll(0), 0);
        Check.due("leaves as before", x.of(0, 0), 3);

        List<Integer> before = Check.picture(x);
        Check.due("doAll(1)", x.doAll(1), 4);
        Check.due("its binder is right", x.of(1, 6), 1);
        Check.due("undo()", x.undo(), 5);
        Check.same("undo() of doAll(1)", Check.picture(x), before);

        x.again(0, 1);
        Check.due("doAll(0) of the one sent again", x.doAll(0), 1);
        Check.due("1.0", x.leaf(0, 10, 1), 1);
        Check.due("2.0 went", x.leaf(0, 20, 0), 0);
        Check.due("4.0 came", x.leaf(0, 40, 1), 1);
        emptyOneIsAChange();
        errors();
        Check.finish();
    }

    private static void emptyOneIsAChange() {
        BinderParcels x = new BinderParcels();
        x.own();
        Check.due("doAll(0) of none", x.doAll(0), 0);
        Check.due("count(8)", x.count(8), 2);
        Check.due("undo()", x.undo(), 1);
        Check.due("the owner is still there", x.count(1), 1);
    }

    private static void errors() {
        BinderParcels x = new BinderParcels();
        x.own();
        Check.issue(x, "+1.0");
        List<Integer> before = Check.wholePicture(x);
        Check.due("doAll(-1)", x.doAll(-1), Check.NO_SUCH);
        Check.due("doAll(1)", x.doAll(1), Check.NO_SUCH);
        Check.due("doAll(8)", x.doAll(8), Check.NO_SUCH);
        Check.due("doAll(MIN)", x.doAll(Integer.MIN_VALUE), Check.NO_SUCH);
        Check.same("the failed doAll", Check.wholePicture(x), before);
    }
}
