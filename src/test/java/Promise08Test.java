/** hand. */
public final class Promise08Test {
    static Section section() {
        return new Section("Promise 8: hand")
            .holds("An owner puts a leaf in, or takes one out, by hand.",
                Promise08Test::putsIn, Promise08Test::takesOneOut, Promise08Test::nothingElse)
            .holds("This is a change.", Promise08Test::isAChange)
            .holds("- `number`: 10 to 99", Promise08Test::lowestAndHighestNumber)
            .holds("- `parcel`: the issue of the leaf", Promise08Test::lowestAndHighestIssue)
            .holds("Returns how many leaves the binder has then;", Promise08Test::from1To60AndBack)
            .holds("NO_SUCH if there is no such owner or parcel;", Promise08Test::noSuch)
            .holds("BAD_VALUE if number is out of range;", Promise08Test::badNumber)
            .holds("NOT_POSSIBLE if no leaf with this number and issue is there to be taken out,",
                Promise08Test::emptyBinder, Promise08Test::anotherNumber, Promise08Test::anotherIssue,
                Promise08Test::anothersBinder, Promise08Test::takenOutAlready)
            .holds("or the binder has 60 leaves.",
                Promise08Test::fullBinder, Promise08Test::fullTextInTheBinder,
                Promise08Test::oneIsTakenOutOfAFullBinder);
    }

    public static void main(String[] args) {
        section().run();
    }

    private static void leaves(Subject x, int number, int leaves, int earliest, int latest) {
        Check.due("leaf(0, " + number + ", 0)", x.leaf(0, number, 0), leaves);
        Check.due("leaf(0, " + number + ", 1)", x.leaf(0, number, 1), earliest);
        Check.due("leaf(0, " + number + ", 2)", x.leaf(0, number, 2), latest);
    }

    /** An owner with an empty binder, and three parcels. */
    private static Subject empty() {
        return Make.waiting("+1.0", "+2.0", "+3.0");
    }

    private static void putsIn() {
        Subject x = empty();
        Check.due("hand(0, 50, 1, true)", x.hand(0, 50, 1, true), 1);
        leaves(x, 50, 1, 1, 1);
        Check.due("hand(0, 50, 0, true), another issue", x.hand(0, 50, 0, true), 2);
        leaves(x, 50, 2, 0, 1);
        Check.due("hand(0, 50, 2, true), another issue", x.hand(0, 50, 2, true), 3);
        leaves(x, 50, 3, 0, 2);
        Check.due("hand(0, 50, 2, true), the same leaf", x.hand(0, 50, 2, true), 4);
        leaves(x, 50, 4, 0, 2);
        leaves(x, 49, 0, Check.NONE, Check.NONE);
        leaves(x, 51, 0, Check.NONE, Check.NONE);
    }

    private static void takesOneOut() {
        Subject x = empty();
        Make.hand(x, 0, 50, 0, 1);
        Make.hand(x, 0, 50, 1, 2);
        Make.hand(x, 0, 50, 2, 1);
        Check.due("hand(0, 50, 1, false), one of two", x.hand(0, 50, 1, false), 3);
        leaves(x, 50, 3, 0, 2);
        Check.due("hand(0, 50, 0, false), the earliest", x.hand(0, 50, 0, false), 2);
        leaves(x, 50, 2, 1, 2);
        Check.due("hand(0, 50, 2, false), the latest", x.hand(0, 50, 2, false), 1);
        leaves(x, 50, 1, 1, 1);
        Check.due("hand(0, 50, 1, false), the last", x.hand(0, 50, 1, false), 0);
        leaves(x, 50, 0, Check.NONE, Check.NONE);
    }

    private static void nothingElse() {
        Subject x = empty();
        x.own();
        x.hand(0, 10, 0, true);
        Check.due("of(0, 1), the parcel still waits", x.of(0, 1), 7);
        Check.due("of(1, 0), the other binder", x.of(1, 0), 3);
        Check.due("count(2), the text", x.count(2), 3);
        x.hand(0, 10, 0, false);
        Check.due("of(0, 1)", x.of(0, 1), 7);
        Check.due("of(0, 2), nothing is lost", x.of(0, 2), 0);
        Check.due("of(1, 0)", x.of(1, 0), 3);
        Check.due("count(2)", x.count(2), 3);
    }

    private static void isAChange() {
        Subject x = empty();
        Check.isChange(x, "hand(0, 50, 1, true)", y -> y.hand(0, 50, 1, true));
        x.hand(0, 50, 1, true);
        Check.isChange(x, "hand(0, 50, 1, false)", y -> y.hand(0, 50, 1, false));
    }

    private static void lowestAndHighestNumber() {
        Subject x = empty();
        Check.due("hand(0, 10, 0, true)", x.hand(0, 10, 0, true), 1);
        Check.due("hand(0, 99, 0, true)", x.hand(0, 99, 0, true), 2);
        leaves(x, 10, 1, 0, 0);
        leaves(x, 99, 1, 0, 0);
        Check.due("hand(0, 10, 0, false)", x.hand(0, 10, 0, false), 1);
        Check.due("hand(0, 99, 0, false)", x.hand(0, 99, 0, false), 0);
    }

    private static void lowestAndHighestIssue() {
        Subject x = Make.owners(1);
        for (int parcel = 0; parcel < 16; parcel++) {
            Check.due("hand(0, 50, " + parcel + ", true), not issued", x.hand(0, 50, parcel, true), Check.NO_SUCH);
            Make.issueAll(x, "-1.0");
        }
        x.hand(0, 50, 15, true);
        leaves(x, 50, 1, 15, 15);
        x.hand(0, 50, 0, true);
        leaves(x, 50, 2, 0, 15);
        Check.due("hand(0, 50, 15, false)", x.hand(0, 50, 15, false), 1);
        leaves(x, 50, 1, 0, 0);
    }

    private static void from1To60AndBack() {
        Subject x = empty();
        for (int i = 1; i <= 60; i++) {
            Check.due("hand(0, 40, " + i % 3 + ", true)", x.hand(0, 40, i % 3, true), i);
        }
        for (int i = 59; i >= 0; i--) {
            Check.due("hand(0, 40, " + i % 3 + ", false)", x.hand(0, 40, i % 3, false), i);
        }
    }

    private static void fails(Subject x, int owner, int number, int parcel, boolean isPutIn, int error) {
        Check.fails(x, "hand(" + owner + ", " + number + ", " + parcel + ", " + isPutIn + ")",
            y -> y.hand(owner, number, parcel, isPutIn), error);
    }

    private static void noSuch() {
        Subject x = empty();
        x.hand(0, 10, 0, true);
        for (int none : new int[] {-1, 3, 16, 32, Integer.MIN_VALUE, Integer.MAX_VALUE}) {
            for (int i = 0; i < 2; i++) {
                fails(x, none, 10, 0, i == 0, Check.NO_SUCH);
                fails(x, 0, 10, none, i == 0, Check.NO_SUCH);
                fails(x, none, 9, none, i == 0, Check.NO_SUCH);
            }
        }
        fails(x, 1, 10, 0, true, Check.NO_SUCH);
        fails(x, 1, 10, 0, false, Check.NO_SUCH);
        fails(Make.owners(1), 0, 10, 0, true, Check.NO_SUCH);
    }

    private static void badNumber() {
        Subject x = empty();
        for (int number : new int[] {9, 100, 0, -10, Integer.MIN_VALUE, Integer.MAX_VALUE}) {
            fails(x, 0, number, 0, true, Check.BAD_VALUE);
            fails(x, 0, number, 0, false, Check.BAD_VALUE);
        }
    }

    private static void emptyBinder() {
        fails(empty(), 0, 50, 0, false, Check.NOT_POSSIBLE);
    }

    private static void anotherNumber() {
        Subject x = empty();
        x.hand(0, 50, 1, true);
        fails(x, 0, 49, 1, false, Check.NOT_POSSIBLE);
        fails(x, 0, 51, 1, false, Check.NOT_POSSIBLE);
    }

    private static void anotherIssue() {
        Subject x = empty();
        x.hand(0, 50, 1, true);
        fails(x, 0, 50, 0, false, Check.NOT_POSSIBLE);
        fails(x, 0, 50, 2, false, Check.NOT_POSSIBLE);
    }

    private static void anothersBinder() {
        Subject x = empty();
        x.own();
        fails(x, 0, 10, 0, false, Check.NOT_POSSIBLE);
        Check.due("hand(1, 10, 0, false)", x.hand(1, 10, 0, false), 2);
    }

    private static void takenOutAlready() {
        Subject x = empty();
        x.hand(0, 50, 1, true);
        x.hand(0, 50, 1, false);
        fails(x, 0, 50, 1, false, Check.NOT_POSSIBLE);
    }

    private static void fullBinder() {
        Subject x = empty();
        x.own();
        Make.hand(x, 0, 40, 1, 59);
        Check.due("the 60th", x.hand(0, 40, 1, true), 60);
        fails(x, 0, 40, 1, true, Check.NOT_POSSIBLE);
        fails(x, 0, 99, 2, true, Check.NOT_POSSIBLE);
        Check.due("hand(1, 40, 1, true), the other binder has room", x.hand(1, 40, 1, true), 4);
    }

    private static void fullTextInTheBinder() {
        fails(Make.full(), 0, 99, 7, true, Check.NOT_POSSIBLE);
    }

    private static void oneIsTakenOutOfAFullBinder() {
        Subject x = Make.full();
        fails(x, 0, 99, 0, false, Check.NOT_POSSIBLE);
        Check.due("hand(0, 69, 7, false)", x.hand(0, 69, 7, false), 59);
        Check.due("hand(0, 99, 7, true)", x.hand(0, 99, 7, true), 60);
        fails(x, 0, 69, 7, true, Check.NOT_POSSIBLE);
    }
}
