/** doAll. */
public final class Promise05Test {
    static Section section() {
        return new Section("Promise 5: doAll")
            .holds("An owner does all parcels that wait with care, in the order in which they were issued.",
                Promise05Test::withCare, Promise05Test::onlyThoseThatWait, Promise05Test::inTheOrderOfIssue,
                Promise05Test::othersStay, Promise05Test::inAFullBinder)
            .holds("This is a change.", Promise05Test::isAChange, Promise05Test::isAChangeIfNoneWaits)
            .holds("Returns how many;", Promise05Test::from0To16)
            .holds("NO_SUCH if there is no such owner.", Promise05Test::noSuch);
    }

    public static void main(String[] args) {
        section().run();
    }

    private static void withCare() {
        Subject x = Make.waiting("+1.0,+2.0", "-2.0");
        Make.hand(x, 0, 10, 1, 3);
        Make.hand(x, 0, 20, 1, 3);
        x.doAll(0);
        Check.due("of(0, 0)", x.of(0, 0), 1);
        Check.due("leaf(0, 10, 1)", x.leaf(0, 10, 1), 0);
        Check.due("of(0, 6)", x.of(0, 6), 1);
    }

    private static void onlyThoseThatWait() {
        Subject x = Make.parcels("+1.0");
        x.own();
        Make.issueAll(x, "+2.0", "+3.0", "+4.0", "+5.0");
        x.hand(0, 10, 0, false);
        x.done(0, 1, true);
        x.hand(0, 20, 1, false);
        x.lose(0, 2);
        Check.due("doAll(0)", x.doAll(0), 2);
        Check.due("of(0, 0)", x.of(0, 0), 2);
        Check.due("leaf(0, 40, 1)", x.leaf(0, 40, 1), 3);
        Check.due("leaf(0, 50, 1)", x.leaf(0, 50, 1), 4);
        Check.due("of(0, 1)", x.of(0, 1), 0);
        Check.due("of(0, 2), lost stays lost", x.of(0, 2), 4);
        x.again(0, 0);
        x.again(0, 2);
        Check.due("doAll(0), those that are sent again", x.doAll(0), 2);
        Check.due("of(0, 0)", x.of(0, 0), 4);
    }

    private static void inTheOrderOfIssue() {
        Subject x = Make.waiting("+1.0,-2.0", "-1.0,+2.0,+3.0", "+1.0,+3.0");
        x.lose(0, 0);
        x.lose(0, 1);
        x.again(0, 1);
        x.again(0, 0);
        Check.due("doAll(0)", x.doAll(0), 3);
        Check.due("leaf(0, 10, 1)", x.leaf(0, 10, 1), 2);
        Check.due("leaf(0, 20, 1)", x.leaf(0, 20, 1), 1);
        Check.due("leaf(0, 30, 1)", x.leaf(0, 30, 1), 2);
        Check.due("of(0, 6)", x.of(0, 6), 1);
    }

    private static void othersStay() {
        Subject x = Make.issueAll(Make.owners(2), "+1.0", "+2.0");
        x.doAll(1);
        Check.due("of(0, 0)", x.of(0, 0), 0);
        Check.due("of(0, 1)", x.of(0, 1), 3);
        Check.due("parcel(0, 9)", x.parcel(0, 9), 1);
    }

    private static void inAFullBinder() {
        Subject x = Make.issueAll(Make.full(), "+9.9", "-1.0", "+9.8,+9.7");
        Check.due("doAll(0)", x.doAll(0), 3);
        Check.due("of(0, 0)", x.of(0, 0), 60);
        Check.due("leaf(0, 99, 0)", x.leaf(0, 99, 0), 0);
        Check.due("leaf(0, 98, 0)", x.leaf(0, 98, 0), 1);
        Check.due("leaf(0, 97, 0)", x.leaf(0, 97, 0), 0);
        Check.due("of(0, 6)", x.of(0, 6), 1);
    }

    private static void isAChange() {
        Check.isChange(Make.waiting("+1.0", "+2.0", "-1.0"), "doAll(0)", x -> x.doAll(0));
    }

    private static void isAChangeIfNoneWaits() {
        Subject x = Make.owners(1);
        Check.isChange(x, "doAll(0) of none", y -> y.doAll(0));
        Check.due("doAll(0) of none", x.doAll(0), 0);
        Check.due("undo()", x.undo(), 1);
        Check.due("count(1), the owner is still there", x.count(1), 1);
    }

    private static void from0To16() {
        Subject x = Make.owners(1);
        Check.due("doAll(0), none", x.doAll(0), 0);
        for (int parcel = 0; parcel < 16; parcel++) {
            Make.issueAll(x, Make.row('+', 10 + parcel, 1));
            Check.due("doAll(0), " + (parcel + 1) + " wait", x.twin().doAll(0), parcel + 1);
        }
        Check.due("doAll(0)", x.doAll(0), 16);
        Check.due("doAll(0), none is left", x.doAll(0), 0);
    }

    private static void noSuch() {
        Subject x = Make.issueAll(Make.owners(2), "+1.0");
        for (int none : new int[] {-1, 2, 8, 32, Integer.MIN_VALUE, Integer.MAX_VALUE}) {
            Check.fails(x, "doAll(" + none + ")", y -> y.doAll(none), Check.NO_SUCH);
        }
        Check.fails(new Subject(), "doAll(0) without owners", y -> y.doAll(0), Check.NO_SUCH);
    }
}
