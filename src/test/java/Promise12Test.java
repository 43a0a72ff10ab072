/** of. */
public final class Promise12Test {
    static Section section() {
        return new Section("Promise 12: of")
            .ordinary("Returns something about an owner.")
            .holds("- `what`: 0 leaves of the binder,", Promise12Test::from0To60)
            .holds("1 the parcels that wait, as a set,",
                Promise12Test::noneWaits, Promise12Test::allWait, Promise12Test::someWait)
            .holds("2 the parcels that are lost, as a set",
                Promise12Test::noneWaits, Promise12Test::allAreLost, Promise12Test::someWait)
            .holds("(and not sent again since),", Promise12Test::sentAgainSince)
            .holds("3 surplus leaves, 4 old ones, 5 missing numbers,",
                Promise12Test::sumsOverTheNumbers, Promise12Test::allAreWrong, Promise12Test::allAreOld)
            .holds("6 whether the binder is right (1 or 0),", Promise12Test::isRight)
            .holds("7 its check number", Promise12Test::checkNumber)
            .holds("Returns the number;", Promise12Test::sumsOverTheNumbers)
            .holds("NO_SUCH if there is no such owner;", Promise12Test::noSuch)
            .holds("BAD_VALUE if what is out of range.", Promise12Test::badWhat);
    }

    public static void main(String[] args) {
        section().run();
    }

    /** Leaves, waiting, lost, surplus, old, missing, right, check number. */
    private static void owner(Subject x, int... wants) {
        for (int what = 0; what < 8; what++) {
            Check.due("of(0, " + what + ")", x.of(0, what), wants[what]);
        }
    }

    private static void from0To60() {
        Subject x = Make.waiting("-1.0");
        for (int i = 0; i <= 60; i++) {
            Check.due("of(0, 0)", x.of(0, 0), i);
            x.hand(0, 10 + i, 0, true);
        }
    }

    private static void noneWaits() {
        Subject x = Make.parcels("+1.0");
        x.own();
        owner(x, 1, 0, 0, 0, 0, 0, 1, 10);
    }

    private static Subject sixteen() {
        Subject x = Make.owners(1);
        for (int parcel = 0; parcel < 16; parcel++) {
            Make.issueAll(x, "-1.0");
        }
        return x;
    }

    private static void allWait() {
        owner(sixteen(), 0, 65535, 0, 0, 0, 0, 1, 0);
    }

    private static void allAreLost() {
        Subject x = sixteen();
        for (int parcel = 0; parcel < 16; parcel++) {
            x.lose(0, parcel);
            Check.due("of(0, 2)", x.of(0, 2), (2 << parcel) - 1);
        }
        owner(x, 0, 0, 65535, 0, 0, 0, 1, 0);
    }

    private static void someWait() {
        Subject x = sixteen();
        x.own();
        x.lose(0, 0);
        x.lose(0, 15);
        x.done(0, 1, true);
        x.done(0, 14, false);
        owner(x, 0, 16380, 32769, 0, 0, 0, 1, 0);
        Check.due("of(1, 1), the other owner's", x.of(1, 1), 0);
        Check.due("of(1, 2)", x.of(1, 2), 0);
    }

    private static void sentAgainSince() {
        Subject x = Make.waiting("+1.0", "+2.0");
        x.lose(0, 0);
        x.lose(0, 1);
        x.again(0, 0);
        Check.due("of(0, 2), sent again", x.of(0, 2), 2);
        x.done(0, 0, true);
        Check.due("of(0, 2), sent again and done", x.of(0, 2), 2);
        x.again(0, 0);
        x.lose(0, 0);
        Check.due("of(0, 2), lost again", x.of(0, 2), 3);
    }

    private static void sumsOverTheNumbers() {
        Subject x = Make.parcels("+1.0,+2.0,+3.0,+4.0,+9.9");
        x.own();
        owner(x, 5, 0, 0, 0, 0, 0, 1, 199);
        Make.issueAll(x, "+1.0,+2.0,-3.0,-4.0,+5.0,+6.0,+7.0");
        owner(x, 5, 2, 0, 2, 2, 3, 0, 199);
        Make.hand(x, 0, 10, 0, 2);
        Make.hand(x, 0, 50, 0, 2);
        owner(x, 9, 2, 0, 5, 3, 2, 0, 319);
        x.done(0, 1, false);
        // 1.0: 0 0 0 1, 2.0: 0 1, 5.0: 0 0 1, 6.0: 1, 7.0: 1, 9.9: 0
        owner(x, 12, 0, 0, 6, 0, 0, 0, 199 - 30 - 40 + 120 + 2 * (10 + 20 + 50 + 60 + 70));
    }

    private static void allAreWrong() {
        Subject x = Make.issueSixty(Make.owners(1));
        for (int i = 0; i < 30; i++) {
            x.hand(0, 70 + i, 0, true);
            x.hand(0, 70 + i, 7, true);
        }
        owner(x, 60, 255, 0, 60, 0, 60, 0, (70 + 99) * 15 * 9 % 997);
    }

    private static void allAreOld() {
        Subject x = Make.full();
        for (int parcel = 8; parcel < 16; parcel++) {
            Make.issueAll(x, Make.row('+', 10 + 8 * (parcel - 8), parcel < 15 ? 8 : 4));
        }
        Check.due("of(0, 3)", x.of(0, 3), 0);
        Check.due("of(0, 4)", x.of(0, 4), 60);
        Check.due("of(0, 5)", x.of(0, 5), 0);
        Check.due("of(0, 6)", x.of(0, 6), 0);
    }

    private static void isRight() {
        Subject x = Make.owners(1);
        Check.due("of(0, 6), empty as the text", x.of(0, 6), 1);
        Make.issueAll(x, "+1.0");
        Check.due("of(0, 6), one is missing", x.of(0, 6), 0);
        x.hand(0, 10, 0, true);
        Check.due("of(0, 6), put in by hand", x.of(0, 6), 1);
        x.hand(0, 10, 0, true);
        Check.due("of(0, 6), one is surplus", x.of(0, 6), 0);
        x.done(0, 0, true);
        Check.due("of(0, 6), done with care", x.of(0, 6), 1);
        Make.issueAll(x, "+1.0");
        Check.due("of(0, 6), one is old", x.of(0, 6), 0);
        x.lose(0, 1);
        Check.due("of(0, 6), still old", x.of(0, 6), 0);
    }

    private static void checkNumber() {
        Subject x = sixteen();
        Check.due("of(0, 7), no leaves", x.of(0, 7), 0);
        x.hand(0, 83, 11, true);
        Check.due("of(0, 7), 996", x.of(0, 7), 996);
        x.hand(0, 10, 0, true);
        Check.due("of(0, 7), 1006", x.of(0, 7), 9);
        x.hand(0, 97, 9, true);
        x.hand(0, 18, 0, true);
        Check.due("of(0, 7), 1994", x.of(0, 7), 0);
    }

    private static void noSuch() {
        Subject x = Make.issueAll(Make.owners(2), "+1.0");
        for (int none : new int[] {-1, 2, 8, 32, Integer.MIN_VALUE, Integer.MAX_VALUE}) {
            for (int what = -1; what <= 8; what++) {
                Check.due("of(" + none + ", " + what + ")", x.of(none, what), Check.NO_SUCH);
            }
        }
    }

    private static void badWhat() {
        Subject x = Make.waiting("+1.0");
        for (int what : new int[] {-1, 8, 9, Integer.MIN_VALUE, Integer.MAX_VALUE}) {
            Check.due("of(0, " + what + ")", x.of(0, what), Check.BAD_VALUE);
        }
    }
}
