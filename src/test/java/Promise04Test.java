/** done. */
public final class Promise04Test {
    static Section section() {
        return new Section("Promise 4: done")
            .holds("An owner does a parcel that waits.",
                Promise04Test::waitsNoLonger, Promise04Test::inAnyOrder, Promise04Test::othersStay)
            .holds("This is a change.", Promise04Test::isAChange)
            .holds("- `isCareful`: whether with care", Promise04Test::withCare, Promise04Test::carelessly)
            .holds("Returns how many leaves the binder has then;",
                Promise04Test::from0To60, Promise04Test::noneIsLeft, Promise04Test::full)
            .holds("NO_SUCH if there is no such owner or parcel;", Promise04Test::noSuch)
            .holds("NOT_POSSIBLE if it does not wait for this owner.",
                Promise04Test::doneAlready, Promise04Test::lost, Promise04Test::olderThanTheOwner);
    }

    public static void main(String[] args) {
        section().run();
    }

    private static void waitsNoLonger() {
        for (int i = 0; i < 2; i++) {
            Subject x = Make.waiting("+1.0", "+2.0", "+3.0");
            x.done(0, 1, i == 0);
            Check.due("of(0, 1)", x.of(0, 1), 5);
            Check.due("of(0, 2), it is not lost", x.of(0, 2), 0);
            Check.due("parcel(1, 9)", x.parcel(1, 9), 0);
            Check.due("leaf(0, 20, 1)", x.leaf(0, 20, 1), 1);
        }
    }

    private static void inAnyOrder() {
        Subject x = Make.waiting("+1.0", "+1.0", "-1.0");
        Check.due("done(0, 2, true)", x.done(0, 2, true), 0);
        Check.due("done(0, 1, true)", x.done(0, 1, true), 1);
        Check.due("done(0, 0, true)", x.done(0, 0, true), 1);
        Check.due("leaf(0, 10, 1)", x.leaf(0, 10, 1), 0);
    }

    private static void othersStay() {
        Subject x = Make.issueAll(Make.owners(3), "+1.0");
        x.done(1, 0, true);
        Check.due("parcel(0, 9)", x.parcel(0, 9), 5);
        Check.due("of(0, 0)", x.of(0, 0), 0);
        Check.due("of(1, 0)", x.of(1, 0), 1);
        Check.due("of(2, 0)", x.of(2, 0), 0);
        Check.due("count(2)", x.count(2), 1);
    }

    private static void isAChange() {
        Subject x = Make.waiting("+1.0,-2.0");
        Make.hand(x, 0, 20, 0, 2);
        Check.isChange(x, "done(0, 0, true)", y -> y.done(0, 0, true));
        Check.isChange(x, "done(0, 0, false)", y -> y.done(0, 0, false));
    }

    private static Subject twoOfEach() {
        Subject x = Make.waiting("+1.0,-2.0");
        Make.hand(x, 0, 10, 0, 2);
        Make.hand(x, 0, 20, 0, 2);
        return x;
    }

    private static void withCare() {
        Subject x = twoOfEach();
        Check.due("done(0, 0, true)", x.done(0, 0, true), 1);
        Check.due("leaf(0, 10, 0)", x.leaf(0, 10, 0), 1);
        Check.due("leaf(0, 20, 0)", x.leaf(0, 20, 0), 0);
    }

    private static void carelessly() {
        Subject x = twoOfEach();
        Check.due("done(0, 0, false)", x.done(0, 0, false), 4);
        Check.due("leaf(0, 10, 0)", x.leaf(0, 10, 0), 3);
        Check.due("leaf(0, 20, 0)", x.leaf(0, 20, 0), 1);
    }

    private static void from0To60() {
        Subject x = Make.issueSixty(Make.owners(1));
        for (int parcel = 0; parcel < 7; parcel++) {
            Check.due("done(0, " + parcel + ", ..)", x.done(0, parcel, parcel % 2 == 0), 8 * parcel + 8);
        }
        Check.due("done(0, 7, true)", x.done(0, 7, true), 60);
    }

    private static void noneIsLeft() {
        Subject x = Make.waiting("-1.0", "+1.0", "-1.0");
        Check.due("done(0, 0, true) in an empty binder", x.done(0, 0, true), 0);
        x.done(0, 1, true);
        Check.due("done(0, 2, true) of the last leaf", x.done(0, 2, true), 0);
    }

    private static void full() {
        Subject x = Make.issueAll(Make.full(), "+9.9", "+9.9,-1.0", "-1.0,-1.1");
        Check.due("done(0, 8, true)", x.done(0, 8, true), 60);
        Check.due("done(0, 9, false)", x.done(0, 9, false), 59);
        Check.due("done(0, 10, true)", x.done(0, 10, true), 58);
    }

    private static void fails(Subject x, int owner, int parcel, int error) {
        for (int i = 0; i < 2; i++) {
            boolean isCareful = i == 0;
            Check.fails(x, "done(" + owner + ", " + parcel + ", " + isCareful + ")",
                y -> y.done(owner, parcel, isCareful), error);
        }
    }

    private static void noSuch() {
        Subject x = Make.issueAll(Make.owners(2), "+1.0", "+2.0");
        for (int none : new int[] {-1, 2, 8, 16, 32, Integer.MIN_VALUE, Integer.MAX_VALUE}) {
            fails(x, none, 0, Check.NO_SUCH);
            fails(x, 0, none, Check.NO_SUCH);
            fails(x, none, none, Check.NO_SUCH);
        }
        fails(new Subject(), 0, 0, Check.NO_SUCH);
    }

    private static void doneAlready() {
        Subject x = Make.issueAll(Make.owners(2), "+1.0", "+2.0");
        x.done(0, 0, true);
        fails(x, 0, 0, Check.NOT_POSSIBLE);
        x.done(0, 1, false);
        fails(x, 0, 1, Check.NOT_POSSIBLE);
        x.doAll(1);
        fails(x, 1, 0, Check.NOT_POSSIBLE);
    }

    private static void lost() {
        Subject x = Make.issueAll(Make.owners(2), "+1.0");
        x.lose(0, 0);
        fails(x, 0, 0, Check.NOT_POSSIBLE);
        Check.due("done(1, 0, true), the other owner's", x.done(1, 0, true), 1);
        x.again(0, 0);
        Check.due("done(0, 0, true), sent again", x.done(0, 0, true), 1);
    }

    private static void olderThanTheOwner() {
        Subject x = Make.parcels("+1.0");
        x.own();
        fails(x, 0, 0, Check.NOT_POSSIBLE);
    }
}
