/** leaf. */
public final class Promise11Test {
    public static void main(String[] args) {
        BinderParcels x = new BinderParcels();
        Check.issue(x, "+1.0,+2.0,+3.0,+4.0");
        Check.issue(x, "+2.0,-4.0");
        Check.issue(x, "+9.9");
        x.own();
        //                   count, earliest, latest, surplus, old, missing
        leaves(x, 10, 1, 0, 0, 0, 0, 0);
        leaves(x, 20, 1, 1, 1, 0, 0, 0);
        leaves(x, 40, 0, Check.NONE, Check.NONE, 0, 0, 0);
        x.hand(0, 10, 0, false);
        leaves(x, 10, 0, Check.NONE, Check.NONE, 0, 0, 1);
        x.hand(0, 20, 0, true);
        leaves(x, 20, 2, 0, 1, 1, 0, 0);
        x.hand(0, 20, 2, true);
        leaves(x, 20, 3, 0, 2, 2, 0, 0);
        x.hand(0, 20, 1, false);
        leaves(x, 20, 2, 0, 2, 1, 1, 0);
        x.hand(0, 20, 0, false);
        leaves(x, 20, 1, 2, 2, 0, 1, 0);
        x.hand(0, 30, 0, true);
        leaves(x, 30, 2, 0, 0, 1, 0, 0);
        x.hand(0, 40, 1, true);
        leaves(x, 40, 1, 1, 1, 1, 0, 0);
        x.hand(0, 40, 0, true);
        x.hand(0, 40, 0, true);
        leaves(x, 40, 3, 0, 1, 3, 0, 0);
        leaves(x, 99, 1, 2, 2, 0, 0, 0);
        leaves(x, 98, 0, Check.NONE, Check.NONE, 0, 0, 0);
        Check.issue(x, "-9.9,+1.0");
        leaves(x, 99, 1, 2, 2, 1, 0, 0);
        errors(x);
        Check.finish();
    }

    private static void leaves(BinderParcels x, int number, int... wants) {
        for (int what = 0; what < wants.length; what++) {
            Check.due("leaf(0, " + number + ", " + what + ")", x.leaf(0, number, what), wants[what]);
        }
    }

    private static void errors(BinderParcels x) {
        Check.due("leaf(-1, 10, 0)", x.leaf(-1, 10, 0), Check.NO_SUCH);
        Check.due("leaf(1, 10, 0)", x.leaf(1, 10, 0), Check.NO_SUCH);
        Check.due("leaf(1, 9, 6)", x.leaf(1, 9, 6), Check.NO_SUCH);
        Check.due("leaf(0, 9, 0)", x.leaf(0, 9, 0), Check.BAD_VALUE);
        Check.due("leaf(0, 100, 0)", x.leaf(0, 100, 0), Check.BAD_VALUE);
        Check.due("leaf(0, 10, -1)", x.leaf(0, 10, -1), Check.BAD_VALUE);
        Check.due("leaf(0, 10, 6)", x.leaf(0, 10, 6), Check.BAD_VALUE);
        Check.due("leaf(0, MAX, 0)", x.leaf(0, Integer.MAX_VALUE, 0), Check.BAD_VALUE);
        Check.due("leaf(0, MIN, 0)", x.leaf(0, Integer.MIN_VALUE, 0), Check.BAD_VALUE);
        Check.due("leaf(0, 10, MAX)", x.leaf(0, 10, Integer.MAX_VALUE), Check.BAD_VALUE);
    }
}
