/** rightFrom. */
public final class Promise17Test {
    static Section section() {
        return new Section("Promise 17: rightFrom")
            .holds("Finds the first parcel from which on a binder would be right, if it and all later ones were done "
                + "with care: the latest such one.",
                Promise17Test::eachParcel, Promise17Test::latestOfSeveral, Promise17Test::allLaterOnesAreDone,
                Promise17Test::withCare, Promise17Test::whetherTheyWait, Promise17Test::earlierOnesDoNotMend,
                Promise17Test::changesNothing)
            .holds("Returns the parcel (the number of parcels, if the binder is right);",
                Promise17Test::right, Promise17Test::rightWithoutParcels, Promise17Test::from0To16)
            .holds("NO_SUCH if there is no such owner;", Promise17Test::noSuch)
            .holds("NONE if not even with all of them.",
                Promise17Test::aLeafThatNoneTakesOut, Promise17Test::aFullBinder);
    }

    public static void main(String[] args) {
        section().run();
    }

    private static void due(Subject x, int want) {
        Check.due("rightFrom(0)", x.rightFrom(0), want);
    }

    private static void eachParcel() {
        Subject x = Make.waiting("+1.0", "+2.0", "+3.0", "+4.0");
        for (int parcel = 0; parcel < 4; parcel++) {
            due(x, parcel);
            x.done(0, parcel, true);
        }
        due(x, 4);
        x.hand(0, 20, 0, true);
        due(x, 1);
        x.hand(0, 10, 0, false);
        due(x, 0);
    }

    private static void latestOfSeveral() {
        Subject x = Make.waiting("+1.0", "+1.0", "+1.0", "-2.0");
        due(x, 2);
        x.hand(0, 20, 0, true);
        due(x, 2);
        x.hand(0, 10, 2, true);
        due(x, 3);
    }

    private static void allLaterOnesAreDone() {
        Subject x = Make.waiting("+1.0", "-2.0", "+1.0", "-3.0");
        x.hand(0, 20, 0, true);
        x.hand(0, 10, 2, true);
        due(x, 1);
        x.hand(0, 10, 0, true);
        due(x, 1);
        x.hand(0, 30, 0, true);
        due(x, 1);
    }

    private static void withCare() {
        Subject x = Make.waiting("+5.0", "+1.0,-2.0");
        x.hand(0, 50, 0, true);
        Make.hand(x, 0, 10, 0, 3);
        Make.hand(x, 0, 20, 0, 3);
        due(x, 1);
    }

    private static void whetherTheyWait() {
        Subject x = Make.parcels("+1.0");
        x.own();
        Make.issueAll(x, "+2.0", "+3.0");
        x.lose(0, 2);
        due(x, 1);
        x.done(0, 1, true);
        due(x, 2);
        x.hand(0, 10, 0, false);
        due(x, 0);
    }

    /** A leaf that had no room in the text comes into a binder with room: from 8 on it would be wrong. */
    private static void earlierOnesDoNotMend() {
        Subject x = Make.issueAll(Make.full(), "+9.9", "-1.0", "+2.0");
        x.done(0, 8, true);
        x.done(0, 9, true);
        due(x, 10);
        x.done(0, 10, true);
        due(x, 11);
    }

    private static void changesNothing() {
        Check.changesNothing(Make.rich(), "rightFrom(0)", x -> x.rightFrom(0));
    }

    private static void right() {
        Subject x = Make.parcels("+1.0", "+2.0");
        x.own();
        due(x, 2);
        Make.issueAll(x, "-9.9");
        due(x, 3);
        Check.due("of(0, 1), it waits", x.of(0, 1), 4);
    }

    private static void rightWithoutParcels() {
        due(Make.owners(1), 0);
    }

    private static void from0To16() {
        Subject x = Make.owners(1);
        for (int parcel = 0; parcel < 16; parcel++) {
            Make.issueAll(x, Make.row('+', 10 + parcel, 1));
        }
        for (int parcel = 0; parcel < 16; parcel++) {
            due(x, parcel);
            x.done(0, parcel, true);
        }
        due(x, 16);
    }

    private static void noSuch() {
        Subject x = Make.issueAll(Make.owners(2), "+1.0");
        for (int none : new int[] {-1, 2, 8, 32, Integer.MIN_VALUE, Integer.MAX_VALUE}) {
            Check.due("rightFrom(" + none + ")", x.rightFrom(none), Check.NO_SUCH);
        }
        Check.due("rightFrom(0) of a new object", new Subject().rightFrom(0), Check.NO_SUCH);
    }

    private static void aLeafThatNoneTakesOut() {
        Subject x = Make.waiting("+1.0", "+2.0");
        x.hand(0, 99, 0, true);
        due(x, Check.NONE);
        x.doAll(0);
        due(x, Check.NONE);
        Make.issueAll(x, "-9.9");
        due(x, 2);
    }

    private static void aFullBinder() {
        Subject x = Make.issueSixty(Make.owners(1));
        due(x, 0);
        x.hand(0, 99, 0, true);
        due(x, Check.NONE);
        Make.issueAll(x, "-9.9,-6.9");
        due(x, 0);
    }
}
