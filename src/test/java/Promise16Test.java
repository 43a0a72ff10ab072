/** mending. */
public final class Promise16Test {
    static Section section() {
        return new Section("Promise 16: mending")
            .holds("Finds the set of parcels with which, done with care in the order in which they were issued, a "
                + "binder would be right:",
                Promise16Test::oneToThree, Promise16Test::withCare, Promise16Test::inTheOrderOfIssue,
                Promise16Test::inAFullBinder, Promise16Test::changesNothing)
            .holds("the one with the fewest parcels,",
                Promise16Test::oneRatherThanTwo, Promise16Test::twoRatherThanThree)
            .holds("of several the lowest one as a number",
                Promise16Test::lowestOne, Promise16Test::lowestPair, Promise16Test::lowestThree)
            .holds("(whether they wait does not matter).", Promise16Test::doneLostAndOlder)
            .holds("Returns the set (0 if the binder is right);",
                Promise16Test::right, Promise16Test::rightThoughSomeWait, Promise16Test::lastThreeOf16)
            .holds("NO_SUCH if there is no such owner;", Promise16Test::noSuch)
            .holds("NONE if there is none of 3 parcels or fewer.",
                Promise16Test::fourAreNeeded, Promise16Test::noParcelMends, Promise16Test::noParcels);
    }

    public static void main(String[] args) {
        section().run();
    }

    private static void due(Subject x, int want) {
        Check.due("mending(0)", x.mending(0), want);
    }

    /**
     * An owner with one leaf too many of each of so many numbers, from 1.0 on; the text has none,
     * and the parcels take out what their digits tell: "02" takes out 1.0 and 1.2.
     */
    private static Subject surplus(int numbers, String... parcels) {
        Subject x = Make.owners(1);
        for (String parcel : parcels) {
            StringBuilder text = new StringBuilder();
            for (char digit : parcel.toCharArray()) {
                text.append(text.length() == 0 ? "-1." : ",-1.").append(digit);
            }
            Make.issueAll(x, text.toString());
        }
        for (int i = 0; i < numbers; i++) {
            x.hand(0, 10 + i, 0, true);
        }
        return x;
    }

    private static void oneToThree() {
        Subject x = Make.waiting("+1.0");
        due(x, 1);
        Make.issueAll(x, "+2.0");
        due(x, 3);
        Make.issueAll(x, "+3.0");
        due(x, 7);
        x.done(0, 1, true);
        due(x, 5);
        x.hand(0, 10, 0, true);
        due(x, 4);
        x.hand(0, 20, 0, true);
        due(x, 6);
        x.hand(0, 30, 2, true);
        due(x, 2);
    }

    private static void withCare() {
        Subject x = Make.waiting("+1.0", "-2.0");
        Make.hand(x, 0, 10, 1, 3);
        Make.hand(x, 0, 20, 1, 3);
        due(x, 3);
    }

    private static void inTheOrderOfIssue() {
        Subject x = Make.waiting("+1.0,+2.0", "+1.0,-3.0", "+3.0,-2.0", "+2.0,+4.0");
        x.hand(0, 30, 0, true);
        x.hand(0, 40, 3, true);
        due(x, 14);
        x.hand(0, 10, 1, true);
        due(x, 12);
        x.hand(0, 20, 0, true);
        due(x, 12);
    }

    private static void inAFullBinder() {
        Subject x = Make.full();
        Make.issueAll(x, "-1.0", "+9.0", "-1.1");
        due(x, 7 << 8);
        x.hand(0, 11, 0, false);
        due(x, 3 << 8);
        x.hand(0, 10, 0, false);
        due(x, 1 << 9);
        Subject y = Make.full();
        Make.issueAll(y, "+9.0", "-1.0");
        due(y, 1 << 9);
        y.hand(0, 10, 0, false);
        due(y, 0);
        y.hand(0, 11, 0, false);
        due(y, 1 << 9 | 1);
    }

    private static void changesNothing() {
        Check.changesNothing(Make.rich(), "mending(0)", x -> x.mending(0));
    }

    private static void oneRatherThanTwo() {
        due(surplus(2, "0", "1", "2", "01"), 8);
        due(surplus(3, "0", "1", "2", "01", "12", "012"), 32);
    }

    private static void twoRatherThanThree() {
        due(surplus(3, "0", "1", "2", "3", "01"), 4 + 16);
        due(surplus(4, "0", "1", "23", "4", "012", "123"), 4 + 16);
        due(surplus(4, "0", "1", "23", "013", "2"), 4 + 8);
    }

    private static void lowestOne() {
        due(surplus(1, "1", "01", "0", "02"), 2);
        due(surplus(2, "0", "1", "012", "01"), 4);
    }

    /** The pair 0 and 3 is a higher number than the pair 1 and 2, though its lowest parcel comes first. */
    private static void lowestPair() {
        due(surplus(4, "01", "02", "13", "23"), 6);
        due(surplus(4, "4", "01", "02", "13", "23"), 12);
        due(surplus(2, "1", "0", "1", "0"), 3);
    }

    private static void lowestThree() {
        due(surplus(9, "012", "345", "036", "147", "258", "678"), 28);
        due(surplus(9, "012", "036", "147", "258", "345", "678"), 14);
        due(surplus(9, "036", "012", "345", "678", "147", "258"), 14);
        due(surplus(3, "0", "1", "2", "0", "1", "2"), 7);
    }

    private static void doneLostAndOlder() {
        Subject x = Make.parcels("+1.0");
        x.own();
        Make.issueAll(x, "+2.0", "+3.0");
        x.hand(0, 10, 0, false);
        x.done(0, 1, true);
        x.hand(0, 20, 1, false);
        x.lose(0, 2);
        due(x, 7);
    }

    private static void right() {
        Subject x = Make.parcels("+1.0");
        x.own();
        due(x, 0);
        Make.issueAll(x, "+2.0");
        x.done(0, 1, false);
        due(x, 0);
    }

    private static void rightThoughSomeWait() {
        Subject x = Make.waiting("-1.0", "+2.0");
        x.hand(0, 20, 1, true);
        due(x, 0);
        Check.due("of(0, 1)", x.of(0, 1), 3);
    }

    private static void lastThreeOf16() {
        Subject x = Make.owners(1);
        for (int parcel = 0; parcel < 13; parcel++) {
            Make.issueAll(x, "-5.0");
        }
        Make.issueAll(x, "+1.0", "+2.0", "+3.0");
        due(x, 1 << 13 | 1 << 14 | 1 << 15);
        x.done(0, 13, true);
        x.done(0, 14, true);
        due(x, 1 << 15);
        x.hand(0, 50, 0, true);
        due(x, 1 << 15 | 1);
        x.hand(0, 20, 14, false);
        due(x, 1 << 15 | 1 << 14 | 1);
    }

    private static void noSuch() {
        Subject x = Make.issueAll(Make.owners(2), "+1.0");
        for (int none : new int[] {-1, 2, 8, 32, Integer.MIN_VALUE, Integer.MAX_VALUE}) {
            Check.due("mending(" + none + ")", x.mending(none), Check.NO_SUCH);
        }
        Check.due("mending(0) of a new object", new Subject().mending(0), Check.NO_SUCH);
    }

    private static void fourAreNeeded() {
        due(surplus(4, "0", "1", "2", "3"), Check.NONE);
        due(surplus(4, "0", "1", "2", "3", "03"), 2 + 4 + 16);
        due(surplus(8, "01", "23", "45", "67", "024", "13"), Check.NONE);
        Subject x = Make.waiting("+1.0", "+2.0", "+3.0", "+4.0");
        due(x, Check.NONE);
        x.doAll(0);
        due(x, 0);
    }

    private static void noParcelMends() {
        Subject x = Make.waiting("+1.0", "+2.0");
        x.hand(0, 99, 0, true);
        due(x, Check.NONE);
        x.doAll(0);
        due(x, Check.NONE);
        x.hand(0, 99, 0, false);
        due(x, 0);
    }

    private static void noParcels() {
        due(Make.owners(1), 0);
    }
}
