/** again. */
public final class Promise07Test {
    static Section section() {
        return new Section("Promise 7: again")
            .holds("A parcel is sent to an owner again: it waits.",
                Promise07Test::lostOne, Promise07Test::doneOne, Promise07Test::olderThanTheOwner,
                Promise07Test::othersStay)
            .holds("This is a change.", Promise07Test::isAChange)
            .holds("Returns how many wait for the owner then;", Promise07Test::from1To16)
            .holds("NO_SUCH if there is no such owner or parcel;", Promise07Test::noSuch)
            .holds("NOT_POSSIBLE if it waits already.",
                Promise07Test::waitsSinceItWasIssued, Promise07Test::sentAgainAlready);
    }

    public static void main(String[] args) {
        section().run();
    }

    private static void lostOne() {
        Subject x = Make.waiting("+1.0", "+2.0");
        x.lose(0, 0);
        x.lose(0, 1);
        Check.due("again(0, 1)", x.again(0, 1), 1);
        Check.due("of(0, 1), it waits", x.of(0, 1), 2);
        Check.due("of(0, 2), the other one is lost", x.of(0, 2), 1);
        Check.due("parcel(1, 9)", x.parcel(1, 9), 1);
        Check.due("parcel(1, 10)", x.parcel(1, 10), 0);
        Check.due("done(0, 1, true)", x.done(0, 1, true), 1);
        Check.due("of(0, 2), it is not lost when it is done", x.of(0, 2), 1);
    }

    private static void doneOne() {
        Subject x = Make.waiting("+1.0");
        x.done(0, 0, false);
        Check.due("again(0, 0)", x.again(0, 0), 1);
        Check.due("of(0, 0), its leaf stays", x.of(0, 0), 1);
        Check.due("done(0, 0, false)", x.done(0, 0, false), 2);
    }

    private static void olderThanTheOwner() {
        Subject x = Make.parcels("+1.0", "+2.0");
        x.own();
        x.hand(0, 10, 0, false);
        Check.due("again(0, 0)", x.again(0, 0), 1);
        Check.due("of(0, 1)", x.of(0, 1), 1);
        Check.due("done(0, 0, true)", x.done(0, 0, true), 2);
        Check.due("of(0, 6)", x.of(0, 6), 1);
    }

    private static void othersStay() {
        Subject x = Make.issueAll(Make.owners(3), "+1.0");
        for (int owner = 0; owner < 3; owner++) {
            x.lose(owner, 0);
        }
        x.again(1, 0);
        Check.due("parcel(0, 9)", x.parcel(0, 9), 2);
        Check.due("parcel(0, 10)", x.parcel(0, 10), 5);
    }

    private static void isAChange() {
        Subject x = Make.waiting("+1.0", "+2.0");
        x.lose(0, 1);
        x.done(0, 0, true);
        Check.isChange(x, "again(0, 1), lost", y -> y.again(0, 1));
        Check.isChange(x, "again(0, 0), done", y -> y.again(0, 0));
    }

    private static void from1To16() {
        Subject x = new Subject();
        for (int parcel = 0; parcel < 16; parcel++) {
            Make.issueAll(x, "+1.0");
        }
        x.own();
        for (int parcel = 15; parcel >= 0; parcel--) {
            Check.due("again(0, " + parcel + ")", x.again(0, parcel), 16 - parcel);
        }
        Check.due("of(0, 1), all wait", x.of(0, 1), 65535);
    }

    private static void fails(Subject x, int owner, int parcel, int error) {
        Check.fails(x, "again(" + owner + ", " + parcel + ")", y -> y.again(owner, parcel), error);
    }

    private static void noSuch() {
        Subject x = Make.issueAll(Make.owners(2), "+1.0", "+2.0");
        x.doAll(0);
        x.lose(1, 0);
        for (int none : new int[] {-1, 2, 8, 16, 32, Integer.MIN_VALUE, Integer.MAX_VALUE}) {
            fails(x, none, 0, Check.NO_SUCH);
            fails(x, 0, none, Check.NO_SUCH);
            fails(x, none, none, Check.NO_SUCH);
        }
        fails(new Subject(), 0, 0, Check.NO_SUCH);
    }

    private static void waitsSinceItWasIssued() {
        Subject x = Make.waiting("+1.0", "+2.0");
        fails(x, 0, 0, Check.NOT_POSSIBLE);
        fails(x, 0, 1, Check.NOT_POSSIBLE);
    }

    private static void sentAgainAlready() {
        Subject x = Make.issueAll(Make.owners(2), "+1.0");
        x.lose(0, 0);
        x.lose(1, 0);
        x.again(0, 0);
        fails(x, 0, 0, Check.NOT_POSSIBLE);
        Check.due("again(1, 0), the other owner's", x.again(1, 0), 1);
    }
}
