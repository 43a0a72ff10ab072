/** ifDone. */
public final class Promise14Test {
    static Section section() {
        return new Section("Promise 14: ifDone")
            .holds("Tells how many leaves and numbers would be wrong (surplus, old and missing, together) in a "
                + "binder,",
                Promise14Test::surplusOldAndMissing, Promise14Test::noneWrong, Promise14Test::allWrong)
            .holds("if a parcel was done in it now with care",
                Promise14Test::withCare, Promise14Test::onlyThisOne, Promise14Test::inAFullBinder,
                Promise14Test::changesNothing)
            .holds("(whether it waits does not matter).", Promise14Test::doneLostAndOlder)
            .holds("Returns how many;", Promise14Test::surplusOldAndMissing)
            .holds("NO_SUCH if there is no such owner or parcel.", Promise14Test::noSuch);
    }

    public static void main(String[] args) {
        section().run();
    }

    private static void surplusOldAndMissing() {
        Subject x = Make.parcels("+1.0,+2.0,+3.0");
        x.own();
        Make.issueAll(x, "+2.0,+4.0", "-3.0,+5.0");
        // wrong are: 2.0 is old, 3.0 is surplus, 4.0 and 5.0 are missing
        Check.due("ifDone(0, 0), which mends nothing", x.ifDone(0, 0), 4);
        Check.due("ifDone(0, 1)", x.ifDone(0, 1), 2);
        Check.due("ifDone(0, 2)", x.ifDone(0, 2), 2);
        x.hand(0, 20, 2, true);
        Check.due("ifDone(0, 2), 2.0 old and surplus", x.ifDone(0, 2), 3);
    }

    private static void noneWrong() {
        Subject x = Make.waiting("+1.0");
        Check.due("ifDone(0, 0)", x.ifDone(0, 0), 0);
        x.done(0, 0, true);
        Check.due("ifDone(0, 0), right already", x.ifDone(0, 0), 0);
        Make.issueAll(x, "+1.0");
        Check.due("ifDone(0, 0), old", x.ifDone(0, 0), 1);
        Check.due("ifDone(0, 1)", x.ifDone(0, 1), 0);
    }

    private static void allWrong() {
        Subject x = Make.issueSixty(Make.owners(1));
        Make.issueAll(x, "-9.8");
        Make.hand(x, 0, 99, 0, 60);
        Check.due("ifDone(0, 8), 60 surplus, 60 missing", x.ifDone(0, 8), 120);
        Check.due("ifDone(0, 0), no room", x.ifDone(0, 0), 120);
        x.hand(0, 99, 0, false);
        Check.due("ifDone(0, 0), room for one", x.ifDone(0, 0), 59 + 59);
    }

    private static void withCare() {
        Subject x = Make.waiting("+1.0,+2.0", "-2.0");
        Make.hand(x, 0, 10, 1, 3);
        Make.hand(x, 0, 20, 1, 3);
        Check.due("ifDone(0, 0)", x.ifDone(0, 0), 1);
        Check.due("ifDone(0, 1)", x.ifDone(0, 1), 3);
    }

    private static void onlyThisOne() {
        Subject x = Make.waiting("+1.0", "+2.0", "+3.0");
        for (int parcel = 0; parcel < 3; parcel++) {
            Check.due("ifDone(0, " + parcel + ")", x.ifDone(0, parcel), 2);
        }
    }

    private static void inAFullBinder() {
        Subject x = Make.full();
        Make.issueAll(x, "-1.0,-1.1", "+9.0,+9.1");
        Check.due("ifDone(0, 9), no room", x.ifDone(0, 9), 4);
        x.hand(0, 10, 0, false);
        Check.due("ifDone(0, 9), room for one", x.ifDone(0, 9), 2);
        x.hand(0, 11, 0, false);
        Check.due("ifDone(0, 9), room for both", x.ifDone(0, 9), 0);
    }

    private static void changesNothing() {
        Check.changesNothing(Make.rich(), "ifDone(0, 3)", x -> x.ifDone(0, 3));
    }

    private static void doneLostAndOlder() {
        Subject x = Make.parcels("+1.0");
        x.own();
        Make.issueAll(x, "+2.0", "+3.0");
        x.hand(0, 10, 0, false);
        Check.due("ifDone(0, 0), older than the owner", x.ifDone(0, 0), 2);
        x.done(0, 1, true);
        x.hand(0, 20, 1, false);
        Check.due("ifDone(0, 1), done", x.ifDone(0, 1), 2);
        x.lose(0, 2);
        Check.due("ifDone(0, 2), lost", x.ifDone(0, 2), 2);
    }

    private static void noSuch() {
        Subject x = Make.issueAll(Make.owners(2), "+1.0", "+2.0");
        for (int none : new int[] {-1, 2, 8, 16, 32, Integer.MIN_VALUE, Integer.MAX_VALUE}) {
            Check.due("ifDone(" + none + ", 0)", x.ifDone(none, 0), Check.NO_SUCH);
            Check.due("ifDone(0, " + none + ")", x.ifDone(0, none), Check.NO_SUCH);
            Check.due("ifDone(" + none + ", " + none + ")", x.ifDone(none, none), Check.NO_SUCH);
        }
        Check.due("ifDone(0, 0) of a new object", new Subject().ifDone(0, 0), Check.NO_SUCH);
    }
}
