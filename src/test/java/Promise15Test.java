/** ifAllDone. */
public final class Promise15Test {
    static Section section() {
        return new Section("Promise 15: ifAllDone")
            .holds("Tells how many would be wrong,", Promise15Test::surplusOldAndMissing, Promise15Test::allWrong)
            .holds("if all parcels that wait were done with care,",
                Promise15Test::noneWaits, Promise15Test::allWait, Promise15Test::onlyThoseThatWait,
                Promise15Test::withCare, Promise15Test::changesNothing)
            .holds("in the order in which they were issued.",
                Promise15Test::inTheOrderOfIssue, Promise15Test::inAFullBinder)
            .holds("Returns how many;", Promise15Test::surplusOldAndMissing)
            .holds("NO_SUCH if there is no such owner.", Promise15Test::noSuch);
    }

    public static void main(String[] args) {
        section().run();
    }

    private static void surplusOldAndMissing() {
        Subject x = Make.parcels("+1.0,+2.0,+3.0");
        x.own();
        Make.issueAll(x, "+2.0,+4.0", "-3.0", "+5.0");
        x.lose(0, 1);
        x.lose(0, 2);
        // wrong are: 2.0 is old, 4.0 is missing, 3.0 is surplus
        Check.due("ifAllDone(0)", x.ifAllDone(0), 3);
        x.hand(0, 50, 0, true);
        x.hand(0, 20, 0, true);
        Check.due("ifAllDone(0), 2.0 twice", x.ifAllDone(0), 4);
    }

    private static void allWrong() {
        Subject x = Make.issueSixty(Make.owners(1));
        Make.hand(x, 0, 99, 0, 60);
        Check.due("ifAllDone(0), no room", x.ifAllDone(0), 120);
        x.hand(0, 99, 0, false);
        Check.due("ifAllDone(0), room for one", x.ifAllDone(0), 118);
    }

    private static void noneWaits() {
        Subject x = Make.parcels("+1.0");
        x.own();
        Check.due("ifAllDone(0), right", x.ifAllDone(0), 0);
        x.hand(0, 10, 0, false);
        Check.due("ifAllDone(0), one is missing", x.ifAllDone(0), 1);
    }

    private static void allWait() {
        Subject x = Make.owners(1);
        for (int parcel = 0; parcel < 16; parcel++) {
            Make.issueAll(x, Make.row('+', 10 + parcel, 2));
        }
        Check.due("ifAllDone(0)", x.ifAllDone(0), 0);
        x.lose(0, 15);
        Check.due("ifAllDone(0), the last one is lost", x.ifAllDone(0), 2);
        x.again(0, 15);
        x.lose(0, 0);
        Check.due("ifAllDone(0), the first one is lost", x.ifAllDone(0), 1);
    }

    private static void onlyThoseThatWait() {
        Subject x = Make.parcels("+1.0");
        x.own();
        Make.issueAll(x, "+2.0", "+3.0", "+4.0");
        x.hand(0, 10, 0, false);
        x.done(0, 1, true);
        x.hand(0, 20, 1, false);
        x.lose(0, 2);
        Check.due("ifAllDone(0), an older, a done and a lost one", x.ifAllDone(0), 3);
        x.again(0, 2);
        Check.due("ifAllDone(0), sent again", x.ifAllDone(0), 2);
    }

    private static void withCare() {
        Subject x = Make.waiting("+1.0,+2.0", "-2.0");
        Make.hand(x, 0, 10, 1, 3);
        Make.hand(x, 0, 20, 1, 3);
        Check.due("ifAllDone(0)", x.ifAllDone(0), 0);
    }

    private static void changesNothing() {
        Check.changesNothing(Make.rich(), "ifAllDone(0)", x -> x.ifAllDone(0));
    }

    private static void inTheOrderOfIssue() {
        Subject x = Make.waiting("+1.0,-2.0", "-1.0,+2.0,+3.0", "+1.0,+3.0");
        x.lose(0, 0);
        x.lose(0, 1);
        x.again(0, 1);
        x.again(0, 0);
        Check.due("ifAllDone(0)", x.ifAllDone(0), 0);
        x.done(0, 2, true);
        Check.due("ifAllDone(0), the last one was done first", x.ifAllDone(0), 2);
    }

    private static void inAFullBinder() {
        Subject x = Make.issueAll(Make.full(), "+9.9", "-1.0", "+9.8,+9.7");
        Check.due("ifAllDone(0), as the text", x.ifAllDone(0), 0);
        x.hand(0, 11, 0, false);
        Check.due("ifAllDone(0), one leaf less", x.ifAllDone(0), 2);
    }

    private static void noSuch() {
        Subject x = Make.issueAll(Make.owners(2), "+1.0");
        for (int none : new int[] {-1, 2, 8, 32, Integer.MIN_VALUE, Integer.MAX_VALUE}) {
            Check.due("ifAllDone(" + none + ")", x.ifAllDone(none), Check.NO_SUCH);
        }
        Check.due("ifAllDone(0) of a new object", new Subject().ifAllDone(0), Check.NO_SUCH);
    }
}
