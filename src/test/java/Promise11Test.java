/** leaf. */
public final class Promise11Test {
    static Section section() {
        return new Section("Promise 11: leaf")
            .ordinary("Returns something about the leaves of a number in a binder.")
            .holds("- `number`: 10 to 99", Promise11Test::lowestAndHighestNumber)
            .holds("- `what`: 0 how many there are,", Promise11Test::from0To60)
            .holds("1 the earliest issue, 2 the latest one", Promise11Test::earliestAndLatest)
            .holds("(NONE if there are none),", Promise11Test::noneIfThereAreNone)
            .holds("3 how many are surplus,", Promise11Test::surplus)
            .holds("4 whether one is old,", Promise11Test::oneIsOld)
            .holds("5 whether it is missing (1 or 0)", Promise11Test::isMissing)
            .holds("Returns the number;", Promise11Test::from0To60)
            .holds("NO_SUCH if there is no such owner;", Promise11Test::noSuch)
            .holds("BAD_VALUE if another argument is out of range.",
                Promise11Test::badNumber, Promise11Test::badWhat);
    }

    public static void main(String[] args) {
        section().run();
    }

    /** How many, the earliest issue, the latest one, surplus, old, missing. */
    private static void leaves(Subject x, int number, int... wants) {
        for (int what = 0; what < 6; what++) {
            Check.due("leaf(0, " + number + ", " + what + ")", x.leaf(0, number, what), wants[what]);
        }
    }

    private static void lowestAndHighestNumber() {
        Subject x = Make.parcels("+1.0", "+9.9");
        x.own();
        leaves(x, 10, 1, 0, 0, 0, 0, 0);
        leaves(x, 11, 0, Check.NONE, Check.NONE, 0, 0, 0);
        leaves(x, 98, 0, Check.NONE, Check.NONE, 0, 0, 0);
        leaves(x, 99, 1, 1, 1, 0, 0, 0);
    }

    private static void from0To60() {
        Subject x = Make.waiting("-1.0");
        for (int i = 0; i <= 60; i++) {
            Check.due("leaf(0, 50, 0)", x.leaf(0, 50, 0), i);
            Check.due("leaf(0, 51, 0)", x.leaf(0, 51, 0), 0);
            x.hand(0, 50, 0, true);
        }
        Check.due("leaf(0, 50, 3)", x.leaf(0, 50, 3), 60);
    }

    private static void earliestAndLatest() {
        Subject x = Make.owners(1);
        for (int parcel = 0; parcel < 16; parcel++) {
            Make.issueAll(x, "-1.0");
        }
        x.hand(0, 50, 7, true);
        leaves(x, 50, 1, 7, 7, 1, 0, 0);
        x.hand(0, 50, 15, true);
        leaves(x, 50, 2, 7, 15, 2, 0, 0);
        x.hand(0, 50, 0, true);
        leaves(x, 50, 3, 0, 15, 3, 0, 0);
        x.hand(0, 49, 3, true);
        x.hand(0, 51, 4, true);
        leaves(x, 50, 3, 0, 15, 3, 0, 0);
        x.hand(0, 50, 15, false);
        leaves(x, 50, 2, 0, 7, 2, 0, 0);
    }

    private static void noneIfThereAreNone() {
        Subject x = Make.waiting("+5.0,+4.9,+5.1");
        leaves(x, 50, 0, Check.NONE, Check.NONE, 0, 0, 1);
        x.doAll(0);
        leaves(x, 50, 1, 0, 0, 0, 0, 0);
        x.hand(0, 50, 0, false);
        leaves(x, 50, 0, Check.NONE, Check.NONE, 0, 0, 1);
        leaves(x, 49, 1, 0, 0, 0, 0, 0);
        leaves(x, 51, 1, 0, 0, 0, 0, 0);
        leaves(x, 60, 0, Check.NONE, Check.NONE, 0, 0, 0);
    }

    private static void surplus() {
        Subject x = Make.parcels("+1.0,+2.0", "+1.0,-2.0");
        x.own();
        leaves(x, 10, 1, 1, 1, 0, 0, 0);
        x.hand(0, 10, 0, true);
        leaves(x, 10, 2, 0, 1, 1, 0, 0);
        x.hand(0, 10, 1, true);
        leaves(x, 10, 3, 0, 1, 2, 0, 0);
        x.hand(0, 20, 0, true);
        leaves(x, 20, 1, 0, 0, 1, 0, 0);
        x.hand(0, 20, 1, true);
        leaves(x, 20, 2, 0, 1, 2, 0, 0);
    }

    private static void oneIsOld() {
        Subject x = Make.parcels("+1.0", "+1.0", "-2.0");
        x.own();
        x.hand(0, 10, 1, false);
        x.hand(0, 10, 0, true);
        leaves(x, 10, 1, 0, 0, 0, 1, 0);
        x.hand(0, 10, 0, true);
        leaves(x, 10, 2, 0, 0, 1, 1, 0);
        x.hand(0, 10, 2, true);
        leaves(x, 10, 3, 0, 2, 2, 1, 0);
        x.hand(0, 10, 1, true);
        leaves(x, 10, 4, 0, 2, 3, 0, 0);
        Make.issueAll(x, "+1.0");
        leaves(x, 10, 4, 0, 2, 3, 1, 0);
        Make.issueAll(x, "-1.0");
        leaves(x, 10, 4, 0, 2, 4, 0, 0);
    }

    private static void isMissing() {
        Subject x = Make.waiting("+1.0");
        leaves(x, 10, 0, Check.NONE, Check.NONE, 0, 0, 1);
        Make.issueAll(x, "+1.0");
        leaves(x, 10, 0, Check.NONE, Check.NONE, 0, 0, 1);
        x.done(0, 0, true);
        leaves(x, 10, 1, 0, 0, 0, 1, 0);
        x.done(0, 1, true);
        leaves(x, 10, 1, 1, 1, 0, 0, 0);
        x.hand(0, 10, 1, false);
        Make.issueAll(x, "-1.0");
        leaves(x, 10, 0, Check.NONE, Check.NONE, 0, 0, 0);
    }

    private static void noSuch() {
        Subject x = Make.issueAll(Make.owners(2), "+1.0");
        for (int none : new int[] {-1, 2, 8, 32, Integer.MIN_VALUE, Integer.MAX_VALUE}) {
            for (int what = -1; what <= 6; what++) {
                Check.due("leaf(" + none + ", 10, " + what + ")", x.leaf(none, 10, what), Check.NO_SUCH);
                Check.due("leaf(" + none + ", 9, " + what + ")", x.leaf(none, 9, what), Check.NO_SUCH);
            }
        }
    }

    private static void badNumber() {
        Subject x = Make.waiting("+1.0,+9.9");
        for (int number : new int[] {9, 100, 0, -10, Integer.MIN_VALUE, Integer.MAX_VALUE}) {
            for (int what = -1; what <= 6; what++) {
                Check.due("leaf(0, " + number + ", " + what + ")", x.leaf(0, number, what), Check.BAD_VALUE);
            }
        }
    }

    private static void badWhat() {
        Subject x = Make.waiting("+1.0");
        for (int what : new int[] {-1, 6, 7, Integer.MIN_VALUE, Integer.MAX_VALUE}) {
            Check.due("leaf(0, 10, " + what + ")", x.leaf(0, 10, what), Check.BAD_VALUE);
        }
    }
}
