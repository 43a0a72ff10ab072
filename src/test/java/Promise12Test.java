/** of. */
public final class Promise12Test {
    public static void main(String[] args) {
        BinderParcels x = new BinderParcels();
        Check.issue(x, "+1.0,+2.0,+3.0,+4.0");
        x.own();
        x.own();
        Check.issue(x, "+2.0,-4.0");
        Check.issue(x, "+9.9");
        //        leaves, waiting, lost, surplus, old, missing, right, check
        owner(x, 0, 4, 6, 0, 1, 1, 1, 0, 100);
        x.lose(0, 1);
        owner(x, 0, 4, 4, 2, 1, 1, 1, 0, 100);
        x.done(0, 2, true);
        owner(x, 0, 5, 0, 2, 1, 1, 0, 0, 100 + 99 * 3);
        x.again(0, 1);
        owner(x, 0, 5, 2, 0, 1, 1, 0, 0, 397);
        x.done(0, 1, false);
        owner(x, 0, 5, 0, 0, 1, 0, 0, 0, 397 + 20 * 2 - 40);
        x.hand(0, 20, 0, false);
        owner(x, 0, 4, 0, 0, 0, 0, 0, 1, 377);
        x.hand(0, 30, 1, true);
        x.hand(0, 30, 2, true);
        x.hand(0, 77, 2, true);
        owner(x, 0, 7, 0, 0, 3, 0, 0, 0, (377 + 60 + 90 + 231) % 997);
        x.hand(0, 30, 0, false);
        x.hand(0, 10, 0, false);
        owner(x, 0, 5, 0, 0, 2, 1, 1, 0, 758 - 30 - 10);
        x.hand(0, 99, 2, true);
        owner(x, 0, 6, 0, 0, 3, 1, 1, 0, (718 + 297) % 997);
        owner(x, 1, 4, 6, 0, 1, 1, 1, 0, 100);
        exactly997();
        errors(x);
        Check.finish();
    }

    private static void owner(BinderParcels x, int owner, int... wants) {
        for (int what = 0; what < wants.length; what++) {
            Check.due("of(" + owner + ", " + what + ")", x.of(owner, what), wants[what]);
        }
    }

    private static void exactly997() {
        BinderParcels x = new BinderParcels();
        Check.issueRows(x, 11);
        x.own();
        for (int number = 10; number < 70; number++) {
            x.hand(0, number, (number - 10) / 8, false);
        }
        Check.due("no leaves", x.of(0, 0), 0);
        Check.due("check number of none", x.of(0, 7), 0);
        x.hand(0, 90, 10, true);
        Check.due("check number of 990", x.of(0, 7), 990);
        x.hand(0, 90, 10, false);
        x.hand(0, 97, 9, true);
        x.hand(0, 27, 0, true);
        Check.due("check number of 997", x.of(0, 7), 0);
        x.hand(0, 27, 0, false);
        x.hand(0, 14, 1, true);
        Check.due("check number of 998", x.of(0, 7), 1);
    }

    private static void errors(BinderParcels x) {
        Check.due("of(-1, 0)", x.of(-1, 0), Check.NO_SUCH);
        Check.due("of(2, 0)", x.of(2, 0), Check.NO_SUCH);
        Check.due("of(2, 8)", x.of(2, 8), Check.NO_SUCH);
        Check.due("of(MAX, -1)", x.of(Integer.MAX_VALUE, -1), Check.NO_SUCH);
        Check.due("of(0, -1)", x.of(0, -1), Check.BAD_VALUE);
        Check.due("of(0, 8)", x.of(0, 8), Check.BAD_VALUE);
        Check.due("of(0, MIN)", x.of(0, Integer.MIN_VALUE), Check.BAD_VALUE);
    }
}
