/** lose. */
public final class Promise06Test {
    static Section section() {
        return new Section("Promise 6: lose")
            .holds("A parcel that waits for an owner is lost.",
                Promise06Test::isLost, Promise06Test::othersStay, Promise06Test::lostOnceMore)
            .holds("This is a change.", Promise06Test::isAChange)
            .holds("Returns how many wait for the owner then;", Promise06Test::from15To0)
            .holds("NO_SUCH if there is no such owner or parcel;", Promise06Test::noSuch)
            .holds("NOT_POSSIBLE if it does not wait for this owner.",
                Promise06Test::lostAlready, Promise06Test::doneAlready, Promise06Test::olderThanTheOwner);
    }

    public static void main(String[] args) {
        section().run();
    }

    private static void isLost() {
        Subject x = Make.waiting("+1.0", "+2.0", "+3.0");
        x.lose(0, 1);
        Check.due("of(0, 1)", x.of(0, 1), 5);
        Check.due("of(0, 2)", x.of(0, 2), 2);
        Check.due("parcel(1, 9)", x.parcel(1, 9), 0);
        Check.due("parcel(1, 10)", x.parcel(1, 10), 1);
        x.lose(0, 2);
        Check.due("of(0, 1), one more is lost", x.of(0, 1), 1);
        Check.due("of(0, 2)", x.of(0, 2), 6);
        Check.due("of(0, 0), the binder stays", x.of(0, 0), 0);
        Check.due("count(2), the text stays", x.count(2), 3);
    }

    private static void othersStay() {
        Subject x = Make.issueAll(Make.owners(3), "+1.0");
        x.lose(1, 0);
        Check.due("parcel(0, 9)", x.parcel(0, 9), 5);
        Check.due("parcel(0, 10)", x.parcel(0, 10), 2);
        Check.due("of(0, 2)", x.of(0, 2), 0);
        Check.due("of(2, 1)", x.of(2, 1), 1);
    }

    private static void lostOnceMore() {
        Subject x = Make.waiting("+1.0");
        x.lose(0, 0);
        x.again(0, 0);
        Check.due("lose(0, 0), sent again", x.lose(0, 0), 0);
        Check.due("of(0, 2)", x.of(0, 2), 1);
        x.again(0, 0);
        x.done(0, 0, true);
        x.again(0, 0);
        Check.due("lose(0, 0), done and sent again", x.lose(0, 0), 0);
        Check.due("of(0, 2)", x.of(0, 2), 1);
        Check.due("of(0, 0), its leaf stays", x.of(0, 0), 1);
    }

    private static void isAChange() {
        Check.isChange(Make.waiting("+1.0", "+2.0"), "lose(0, 1)", x -> x.lose(0, 1));
    }

    private static void from15To0() {
        Subject x = Make.owners(1);
        for (int parcel = 0; parcel < 16; parcel++) {
            Make.issueAll(x, "+1.0");
        }
        for (int parcel = 0; parcel < 16; parcel++) {
            Check.due("lose(0, " + parcel + ")", x.lose(0, parcel), 15 - parcel);
        }
        Check.due("of(0, 1), none waits", x.of(0, 1), 0);
        Check.due("of(0, 2), all are lost", x.of(0, 2), 65535);
    }

    private static void fails(Subject x, int owner, int parcel, int error) {
        Check.fails(x, "lose(" + owner + ", " + parcel + ")", y -> y.lose(owner, parcel), error);
    }

    private static void noSuch() {
        Subject x = Make.issueAll(Make.owners(2), "+1.0", "+2.0");
        for (int none : new int[] {-1, 2, 8, 16, 32, Integer.MIN_VALUE, Integer.MAX_VALUE}) {
            fails(x, none, 0, Check.NO_SUCH);
            fails(x, 0, none, Check.NO_SUCH);
            fails(x, none, none, Check.NO_SUCH);
        }
        fails(new Subject(), 0, 0, Check.NO_SUCH);
    }

    private static void lostAlready() {
        Subject x = Make.issueAll(Make.owners(2), "+1.0");
        x.lose(0, 0);
        fails(x, 0, 0, Check.NOT_POSSIBLE);
        Check.due("lose(1, 0), the other owner's", x.lose(1, 0), 0);
    }

    private static void doneAlready() {
        Subject x = Make.waiting("+1.0", "+2.0", "+3.0");
        x.done(0, 0, true);
        fails(x, 0, 0, Check.NOT_POSSIBLE);
        x.done(0, 1, false);
        fails(x, 0, 1, Check.NOT_POSSIBLE);
        x.doAll(0);
        fails(x, 0, 2, Check.NOT_POSSIBLE);
    }

    private static void olderThanTheOwner() {
        Subject x = Make.parcels("+1.0");
        x.own();
        fails(x, 0, 0, Check.NOT_POSSIBLE);
    }
}
