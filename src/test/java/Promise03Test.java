/** own. */
public final class Promise03Test {
    static Section section() {
        return new Section("Promise 3: own")
            .holds("A new owner comes.",
                Promise03Test::binderOfTheText, Promise03Test::othersStay, Promise03Test::ownerWhoWasUndone)
            .holds("This is a change.", Promise03Test::isAChange)
            .holds("Returns the number of the owner;", Promise03Test::numbers0To7)
            .holds("TOO_MANY if there are 8.", Promise03Test::ninth, Promise03Test::roomBehindUndo);
    }

    public static void main(String[] args) {
        section().run();
    }

    private static void binderOfTheText() {
        Subject x = Make.parcels("+1.0,+2.0", "-1.0,+9.9");
        x.own();
        Check.due("of(0, 0)", x.of(0, 0), 2);
        Check.due("of(0, 1)", x.of(0, 1), 0);
        Check.due("of(0, 2)", x.of(0, 2), 0);
        Check.due("of(0, 6)", x.of(0, 6), 1);
        Check.due("of(0, 7)", x.of(0, 7), 20 + 2 * 99);
        Check.due("leaf(0, 99, 1)", x.leaf(0, 99, 1), 1);
    }

    private static void othersStay() {
        Subject x = Make.waiting("+1.0", "+2.0");
        x.lose(0, 1);
        x.own();
        Check.due("of(0, 0), the first owner's", x.of(0, 0), 0);
        Check.due("of(0, 1)", x.of(0, 1), 1);
        Check.due("of(0, 2)", x.of(0, 2), 2);
        Check.due("of(1, 0), the second owner's", x.of(1, 0), 2);
        Check.due("of(1, 1)", x.of(1, 1), 0);
        Check.due("of(1, 2)", x.of(1, 2), 0);
    }

    private static void ownerWhoWasUndone() {
        Subject x = Make.issueAll(Make.owners(2), "+1.0", "+2.0");
        x.lose(1, 0);
        x.hand(1, 99, 0, true);
        for (int i = 0; i < 5; i++) {
            x.undo();
        }
        Check.due("count(1)", x.count(1), 1);
        Check.due("own()", x.own(), 1);
        Check.due("of(1, 0)", x.of(1, 0), 0);
        Check.due("of(1, 1)", x.of(1, 1), 0);
        Check.due("of(1, 2)", x.of(1, 2), 0);
        Make.issueAll(x, "+3.0");
        Check.due("of(1, 1), a parcel came", x.of(1, 1), 1);
    }

    private static void isAChange() {
        Check.isChange(new Subject(), "the first own()", Subject::own);
        Check.isChange(Make.parcels("+1.0", "+2.0"), "own()", Subject::own);
        Check.isChange(Make.owners(7), "the last own()", Subject::own);
    }

    private static void numbers0To7() {
        Subject x = new Subject();
        for (int owner = 0; owner < 8; owner++) {
            Check.due("own()", x.own(), owner);
            Check.due("count(1)", x.count(1), owner + 1);
        }
    }

    private static void ninth() {
        Check.fails(Make.issueAll(Make.owners(8), "+1.0"), "the ninth own()", Subject::own, Check.TOO_MANY);
    }

    private static void roomBehindUndo() {
        Subject x = Make.owners(8);
        x.undo();
        Check.due("own() behind undo()", x.own(), 7);
        Check.due("one more own()", x.own(), Check.TOO_MANY);
    }
}
