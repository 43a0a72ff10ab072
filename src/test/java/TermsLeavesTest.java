/** Leaves and parcels, and how a parcel is done. */
public final class TermsLeavesTest {
    static Section section() {
        return new Section("Terms")
            .ordinary("Leaves, parcels")
            .holds("A leaf has a number, from 1.0 to 9.9; as an argument and in answers it is 10 times the part ahead "
                + "of the point and the part behind it: 10 to 99.",
                TermsLeavesTest::numbers10To99, TermsLeavesTest::noOtherNumbers)
            .holds("A leaf is of an issue: the parcel with which it came.", TermsLeavesTest::issues0To15)
            .holds("There are up to 16 parcels, numbered in the order in which they are issued.",
                TermsLeavesTest::upTo16Parcels)
            .holds("A parcel is a row of 1 to 8 orders, in each of which a number is put in, or taken out.",
                TermsLeavesTest::oneTo8Orders, TermsLeavesTest::neither0Nor9Orders)
            .holds("In a parcel no number comes twice.",
                TermsLeavesTest::noNumberTwice, TermsLeavesTest::twiceInTwoParcels)
            .ordinary("A binder has leaves.")
            .holds("To do a parcel in a binder with care means, order by order: all leaves with the number go; if it "
                + "is put in, one leaf with this number, of the issue of this parcel, comes.",
                TermsLeavesTest::withCareAllGo, TermsLeavesTest::withCareNoneIsThere,
                TermsLeavesTest::withCareSixtyGo, TermsLeavesTest::withCareOrderByOrder)
            .holds("To do it carelessly means, order by order: if the number is put in, a leaf with it, of the issue "
                + "of this parcel, comes (others with this number stay);",
                TermsLeavesTest::carelesslyOthersStay, TermsLeavesTest::carelesslyOrderByOrder)
            .holds("if it is taken out, one leaf with this number goes, the one of the earliest issue (none, if there "
                + "is none).",
                TermsLeavesTest::carelesslyTheEarliestGoes, TermsLeavesTest::carelesslyNoneIsThere)
            .holds("A binder (and the text of today) has at most 60 leaves: a leaf that would be the 61st does not "
                + "come, with care or without.",
                TermsLeavesTest::textHas60, TermsLeavesTest::leafThatDidNotComeStaysAway,
                TermsLeavesTest::binderHas60WithCare, TermsLeavesTest::binderHas60Carelessly,
                TermsLeavesTest::sixtiethComes, TermsLeavesTest::binderHas60ByDoAll)
            .holds("The text of today is what a binder would be in which all parcels were done with care, one after "
                + "the other; at first it is empty.",
                TermsLeavesTest::textIsAllDoneWithCare, TermsLeavesTest::textIsEmptyAtFirst)
            .holds("(The text has each number once at most.)", TermsLeavesTest::textHasEachNumberOnce);
    }

    public static void main(String[] args) {
        section().run();
    }

    private static void numbers10To99() {
        Subject x = Make.waiting("+1.0,-1.9,+9.0,+9.9");
        int[] orders = {110, 19, 190, 199};
        for (int what = 1; what <= 4; what++) {
            Check.due("parcel(0, " + what + ")", x.parcel(0, what), orders[what - 1]);
        }
        Check.due("text(10)", x.text(10), 0);
        Check.due("text(19)", x.text(19), Check.NONE);
        Check.due("text(90)", x.text(90), 0);
        Check.due("text(99)", x.text(99), 0);
        Check.due("hand(0, 10, 0, true)", x.hand(0, 10, 0, true), 1);
        Check.due("hand(0, 99, 0, true)", x.hand(0, 99, 0, true), 2);
        Check.due("leaf(0, 10, 0)", x.leaf(0, 10, 0), 1);
        Check.due("leaf(0, 99, 0)", x.leaf(0, 99, 0), 1);
        Check.due("of(0, 7)", x.of(0, 7), 109);
    }

    private static void noOtherNumbers() {
        Subject x = Make.waiting("+1.0");
        for (int number : new int[] {9, 100, 0, -10, Integer.MIN_VALUE, Integer.MAX_VALUE}) {
            Check.due("text(" + number + ")", x.text(number), Check.BAD_VALUE);
            Check.due("leaf(0, " + number + ", 0)", x.leaf(0, number, 0), Check.BAD_VALUE);
            Check.due("hand(0, " + number + ", 0, true)", x.hand(0, number, 0, true), Check.BAD_VALUE);
        }
        Check.due("issue() of 0.9", Make.issue(x, "+0.9"), Check.BAD_TEXT);
        Check.due("issue() of 10.0", Make.issue(x, "+10.0"), Check.BAD_TEXT);
    }

    private static void issues0To15() {
        Subject x = Make.owners(1);
        for (int parcel = 0; parcel < 16; parcel++) {
            Make.issue(x, "+9.9," + Make.row('+', 10 + parcel, 1));
            Check.due("text(99), the latest", x.text(99), parcel);
            x.done(0, parcel, false);
        }
        for (int parcel = 0; parcel < 16; parcel++) {
            Check.due("text(" + (10 + parcel) + ")", x.text(10 + parcel), parcel);
            Check.due("leaf(0, " + (10 + parcel) + ", 1)", x.leaf(0, 10 + parcel, 1), parcel);
        }
        Check.due("leaf(0, 99, 0)", x.leaf(0, 99, 0), 16);
        Check.due("leaf(0, 99, 1)", x.leaf(0, 99, 1), 0);
        Check.due("leaf(0, 99, 2)", x.leaf(0, 99, 2), 15);
    }

    private static void upTo16Parcels() {
        Subject x = new Subject();
        for (int parcel = 0; parcel < 16; parcel++) {
            Check.due("issue() " + parcel, Make.issue(x, Make.row('-', 20 + parcel, 1)), parcel);
        }
        for (int parcel = 0; parcel < 16; parcel++) {
            Check.due("parcel(" + parcel + ", 1)", x.parcel(parcel, 1), 20 + parcel);
        }
        Check.due("the 17th issue()", Make.issue(x, "+1.0"), Check.TOO_MANY);
        Check.due("parcel(16, 0)", x.parcel(16, 0), Check.NO_SUCH);
        Check.due("count(0)", x.count(0), 16);
    }

    private static void oneTo8Orders() {
        Subject x = new Subject();
        for (int orders = 1; orders <= 8; orders++) {
            Make.issue(x, Make.row(orders % 2 == 0 ? '+' : '-', 10 * orders, orders));
            int putIn = orders % 2 == 0 ? 100 : 0;
            Check.due("parcel(" + (orders - 1) + ", 0)", x.parcel(orders - 1, 0), orders);
            Check.due("its last order", x.parcel(orders - 1, orders), putIn + 11 * orders - 1);
        }
    }

    private static void neither0Nor9Orders() {
        Subject x = new Subject();
        Check.due("issue() without an order", Make.issue(x, ""), Check.BAD_TEXT);
        Check.due("issue() of 9 orders", Make.issue(x, Make.row('+', 10, 9)), Check.BAD_TEXT);
        Check.due("count(0)", x.count(0), 0);
    }

    private static void noNumberTwice() {
        String[] signs = {"+", "-"};
        for (int first = 0; first < 8; first++) {
            for (int second = first + 1; second < 8; second++) {
                for (int sign = 0; sign < 4; sign++) {
                    String[] orders = Make.row('+', 30, 8).split(",");
                    orders[first] = signs[sign / 2] + "9.9";
                    orders[second] = signs[sign % 2] + "9.9";
                    String text = String.join(",", orders);
                    Check.due("issue() of " + text, Make.issue(new Subject(), text), Check.BAD_VALUE);
                }
            }
        }
        Subject x = new Subject();
        Check.due("the same part ahead", Make.issue(x, "+1.0,+1.1,-1.2,+1.9"), 0);
        Check.due("the same part behind", Make.issue(x, "+1.0,+2.0,-3.0,+9.0"), 1);
        Check.due("the parts changed over", Make.issue(x, "+1.2,+2.1,-3.4,-4.3"), 2);
    }

    private static void twiceInTwoParcels() {
        Subject x = new Subject();
        Check.due("issue()", Make.issue(x, "+1.0,-2.0"), 0);
        Check.due("issue() of the same numbers", Make.issue(x, "+1.0,-2.0"), 1);
        Check.due("issue() of the same numbers the other way", Make.issue(x, "+2.0,-1.0"), 2);
    }

    /** Owner 0 has 5.0 of the issues 2, 0, 1 and 1, and a leaf on either side; parcel 3 waits. */
    private static Subject several(String text) {
        Subject x = Make.parcels("-1.0", "-1.0", "-1.0");
        x.own();
        x.hand(0, 50, 2, true);
        x.hand(0, 49, 1, true);
        x.hand(0, 50, 0, true);
        x.hand(0, 51, 1, true);
        Make.hand(x, 0, 50, 1, 2);
        return Make.issueAll(x, text);
    }

    private static void leaves(Subject x, int number, int leaves, int earliest, int latest) {
        Check.due("leaf(0, " + number + ", 0)", x.leaf(0, number, 0), leaves);
        Check.due("leaf(0, " + number + ", 1)", x.leaf(0, number, 1), earliest);
        Check.due("leaf(0, " + number + ", 2)", x.leaf(0, number, 2), latest);
    }

    private static void withCareAllGo() {
        Subject out = several("-5.0");
        Check.due("done with care, taken out", out.done(0, 3, true), 2);
        leaves(out, 50, 0, Check.NONE, Check.NONE);
        leaves(out, 49, 1, 1, 1);
        leaves(out, 51, 1, 1, 1);
        Subject in = several("+5.0");
        Check.due("done with care, put in", in.done(0, 3, true), 3);
        leaves(in, 50, 1, 3, 3);
        leaves(in, 49, 1, 1, 1);
        leaves(in, 51, 1, 1, 1);
        in.again(0, 3);
        Check.due("done with care once more", in.done(0, 3, true), 3);
        leaves(in, 50, 1, 3, 3);
    }

    private static void withCareNoneIsThere() {
        Subject x = several("-5.2,+4.8,-4.7");
        Check.due("done with care", x.done(0, 3, true), 7);
        leaves(x, 52, 0, Check.NONE, Check.NONE);
        leaves(x, 48, 1, 3, 3);
        leaves(x, 49, 1, 1, 1);
        leaves(x, 50, 4, 0, 2);
        leaves(x, 51, 1, 1, 1);
        Subject empty = Make.waiting("-5.0", "+5.0");
        Check.due("taken out of an empty binder", empty.done(0, 0, true), 0);
        Check.due("put in an empty binder", empty.done(0, 1, true), 1);
    }

    private static void withCareSixtyGo() {
        Subject x = Make.waiting("-5.0", "+5.0");
        Make.hand(x, 0, 50, 0, 60);
        Check.due("put in with care", x.twin().done(0, 1, true), 1);
        Check.due("taken out with care", x.done(0, 0, true), 0);
    }

    /** Only in a full binder does it matter in which order the orders are done. */
    private static void withCareOrderByOrder() {
        Subject x = Make.issueAll(Make.full(), "+9.0,-1.0,+9.1,+9.2", "+9.0,-1.1");
        Check.due("done(0, 8, true)", x.done(0, 8, true), 60);
        leaves(x, 90, 0, Check.NONE, Check.NONE);
        leaves(x, 10, 0, Check.NONE, Check.NONE);
        leaves(x, 91, 1, 8, 8);
        leaves(x, 92, 0, Check.NONE, Check.NONE);
        Check.due("done(0, 9, true)", x.done(0, 9, true), 59);
        leaves(x, 90, 0, Check.NONE, Check.NONE);
    }

    private static void carelesslyOthersStay() {
        Subject x = several("+5.0,+5.2");
        Check.due("done carelessly, put in", x.done(0, 3, false), 8);
        leaves(x, 50, 5, 0, 3);
        leaves(x, 52, 1, 3, 3);
        leaves(x, 49, 1, 1, 1);
        leaves(x, 51, 1, 1, 1);
        x.again(0, 3);
        Check.due("done carelessly once more", x.done(0, 3, false), 10);
        leaves(x, 50, 6, 0, 3);
        leaves(x, 52, 2, 3, 3);
    }

    private static void carelesslyOrderByOrder() {
        Subject x = Make.issueAll(Make.full(), "+9.0,-1.0,+9.1,+9.2", "+9.0,-1.1");
        Check.due("done(0, 8, false)", x.done(0, 8, false), 60);
        leaves(x, 90, 0, Check.NONE, Check.NONE);
        leaves(x, 10, 0, Check.NONE, Check.NONE);
        leaves(x, 91, 1, 8, 8);
        leaves(x, 92, 0, Check.NONE, Check.NONE);
        Check.due("done(0, 9, false)", x.done(0, 9, false), 59);
        leaves(x, 90, 0, Check.NONE, Check.NONE);
    }

    private static void carelesslyTheEarliestGoes() {
        Subject x = several("-5.0,-5.1");
        int[] earliest = {1, 1, 2, Check.NONE};
        for (int left = 3; left >= 0; left--) {
            Check.due("done carelessly, taken out", x.done(0, 3, false), left + 1);
            leaves(x, 50, left, earliest[3 - left], left > 0 ? 2 : Check.NONE);
            leaves(x, 49, 1, 1, 1);
            leaves(x, 51, 0, Check.NONE, Check.NONE);
            x.again(0, 3);
        }
        Check.due("done carelessly, none is left", x.done(0, 3, false), 1);
    }

    private static void carelesslyNoneIsThere() {
        Subject x = several("-5.2,-4.8,-1.0,-9.9");
        Check.due("done carelessly", x.done(0, 3, false), 6);
        leaves(x, 49, 1, 1, 1);
        leaves(x, 50, 4, 0, 2);
        leaves(x, 51, 1, 1, 1);
        Check.due("in an empty binder", Make.waiting("-5.0").done(0, 0, false), 0);
    }

    private static void textHas60() {
        Subject x = new Subject();
        for (int parcel = 0; parcel < 7; parcel++) {
            Make.issueAll(x, Make.row('+', 10 + 8 * parcel, 8));
            Check.due("count(2)", x.count(2), 8 * parcel + 8);
        }
        Make.issueAll(x, Make.row('+', 66, 8));
        Check.due("count(2), full", x.count(2), 60);
        for (int number = 66; number < 74; number++) {
            Check.due("text(" + number + ")", x.text(number), number < 70 ? 7 : Check.NONE);
        }
        Make.issueAll(x, "+9.9");
        Check.due("count(2), still full", x.count(2), 60);
        Check.due("text(99)", x.text(99), Check.NONE);
        Make.issueAll(x, "+1.0");
        Check.due("count(2), one in place of one", x.count(2), 60);
        Check.due("text(10)", x.text(10), 9);
    }

    private static void leafThatDidNotComeStaysAway() {
        Subject x = Make.issueAll(Make.issueSixty(new Subject()), "+9.9", "-1.0");
        Check.due("count(2), one taken out", x.count(2), 59);
        Check.due("text(99)", x.text(99), Check.NONE);
        x.own();
        Check.due("of(0, 0), an owner who comes then", x.of(0, 0), 59);
        Check.due("leaf(0, 99, 0)", x.leaf(0, 99, 0), 0);
    }

    private static void binderHas60WithCare() {
        Subject x = Make.issueAll(Make.full(), "+9.9", "+1.0", "+5.0");
        Check.due("a 61st leaf", x.done(0, 8, true), 60);
        leaves(x, 99, 0, Check.NONE, Check.NONE);
        Check.due("one in place of one", x.done(0, 9, true), 60);
        leaves(x, 10, 1, 9, 9);
        x.hand(0, 11, 0, false);
        Make.hand(x, 0, 50, 2, 1);
        Check.due("one in place of two", x.done(0, 10, true), 59);
        leaves(x, 50, 1, 10, 10);
    }

    private static void binderHas60Carelessly() {
        Subject x = Make.issueAll(Make.full(), "+9.9", "+1.0", "-1.0");
        Check.due("a 61st leaf", x.done(0, 8, false), 60);
        leaves(x, 99, 0, Check.NONE, Check.NONE);
        Check.due("a 61st leaf of a number that is there", x.done(0, 9, false), 60);
        leaves(x, 10, 1, 0, 0);
        Check.due("one goes", x.done(0, 10, false), 59);
    }

    private static void sixtiethComes() {
        Subject x = Make.issueAll(Make.full(), "+9.9,+9.8");
        x.hand(0, 69, 7, false);
        for (int i = 0; i < 2; i++) {
            boolean isCareful = i == 0;
            Subject y = x.twin();
            Check.due("the 60th and the 61st leaf, " + isCareful, y.done(0, 8, isCareful), 60);
            leaves(y, 99, 1, 8, 8);
            leaves(y, 98, 0, Check.NONE, Check.NONE);
        }
    }

    private static void binderHas60ByDoAll() {
        Subject x = Make.issueSixty(Make.owners(1));
        Make.issueAll(x, Make.row('+', 70, 8));
        x.hand(0, 99, 0, true);
        Check.due("doAll(0)", x.doAll(0), 9);
        Check.due("of(0, 0)", x.of(0, 0), 60);
        leaves(x, 69, 0, Check.NONE, Check.NONE);
        leaves(x, 68, 1, 7, 7);
        leaves(x, 99, 1, 0, 0);
    }

    private static void textIsAllDoneWithCare() {
        Subject x = Make.issueSixty(Make.owners(1));
        Make.issueAll(x, "+9.0,-1.0,+9.1,-1.1", "+1.5,-1.4,+1.6,-9.1,+8.0", "+1.5,-1.6,-7.7");
        for (int parcel = 0; parcel < 11; parcel++) {
            x.done(0, parcel, true);
        }
        for (int number = 10; number <= 99; number++) {
            Check.due("text(" + number + ")", x.text(number), x.leaf(0, number, 1));
        }
        Check.due("count(2)", x.count(2), x.of(0, 0));
        Check.due("count(3)", x.count(3), x.of(0, 7));
        Check.due("of(0, 6)", x.of(0, 6), 1);
    }

    private static void textIsEmptyAtFirst() {
        Subject x = new Subject();
        for (int number = 10; number <= 99; number++) {
            Check.due("text(" + number + ")", x.text(number), Check.NONE);
        }
        Check.due("count(2)", x.count(2), 0);
        Make.issueAll(x, "-1.0");
        Check.due("count(2), taken out of nothing", x.count(2), 0);
    }

    private static void textHasEachNumberOnce() {
        Subject x = new Subject();
        for (int parcel = 0; parcel < 16; parcel++) {
            Make.issueAll(x, "+1.0,+9.9");
            Check.due("count(2)", x.count(2), 2);
            Check.due("text(10)", x.text(10), parcel);
            Check.due("text(99)", x.text(99), parcel);
        }
    }
}
