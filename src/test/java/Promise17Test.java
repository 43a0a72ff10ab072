import java.util.List;

/** rightFrom. */
public final class Promise17Test {
    public static void main(String[] args) {
        BinderParcels x = new BinderParcels();
        x.own();
        Check.due("rightFrom(0) without parcels", x.rightFrom(0), 0);
        Check.issue(x, "+1.0");
        Check.due("rightFrom(0), nothing is done", x.rightFrom(0), 0);
        Check.issue(x, "+2.0");
        Check.issue(x, "+3.0");
        Check.due("rightFrom(0), nothing is done", x.rightFrom(0), 0);
        x.done(0, 0, true);
        List<Integer> before = Check.wholePicture(x);
        Check.due("rightFrom(0), the first is done", x.rightFrom(0), 1);
        Check.same("rightFrom", Check.wholePicture(x), before);
        x.lose(0, 1);
        Check.due("rightFrom(0), one is lost", x.rightFrom(0), 1);
        x.done(0, 2, true);
        Check.due("rightFrom(0), the second is not done", x.rightFrom(0), 1);
        x.hand(0, 20, 1, true);
        Check.due("rightFrom(0), right", x.rightFrom(0), 3);
        x.hand(0, 30, 1, true);
        Check.due("rightFrom(0), the last is to be done", x.rightFrom(0), 2);
        x.hand(0, 99, 1, true);
        Check.due("rightFrom(0), a leaf that none takes out", x.rightFrom(0), Check.NONE);
        Check.issue(x, "-9.9");
        Check.due("rightFrom(0), the last two", x.rightFrom(0), 2);
        Check.issue(x, "+4.0");
        x.hand(0, 40, 4, true);
        Check.due("rightFrom(0), not only the ones that are needed", x.rightFrom(0), 2);
        errors();
        Check.finish();
    }

    private static void errors() {
        BinderParcels x = new BinderParcels();
        Check.due("rightFrom(0)", x.rightFrom(0), Check.NO_SUCH);
        x.own();
        Check.due("rightFrom(-1)", x.rightFrom(-1), Check.NO_SUCH);
        Check.due("rightFrom(1)", x.rightFrom(1), Check.NO_SUCH);
        Check.due("rightFrom(MIN)", x.rightFrom(Integer.MIN_VALUE), Check.NO_SUCH);
    }
}
