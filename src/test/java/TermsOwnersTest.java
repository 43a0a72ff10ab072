/** Owners, what waits for them, and how their binders differ from the text. */
public final class TermsOwnersTest {
    static Section section() {
        return new Section("Terms")
            .holds("There are up to 8 owners, numbered in the order in which they came, each with a binder: at first "
                + "the text of today when the owner came.",
                TermsOwnersTest::upTo8Owners, TermsOwnersTest::eachWithABinder,
                TermsOwnersTest::binderIsEmptyAtFirst, TermsOwnersTest::binderIsTheTextAtFirst,
                TermsOwnersTest::binderIsAFullTextAtFirst, TermsOwnersTest::binderStaysWhenTheTextChanges)
            .holds("Each parcel that is issued behind that waits for the owner, until it is done or lost;",
                TermsOwnersTest::laterParcelsWait, TermsOwnersTest::untilDoneOrLost)
            .holds("older ones count as done.", TermsOwnersTest::olderParcelsCountAsDone)
            .holds("Of the leaves of a binder with a number that the text does not have, all are surplus.",
                TermsOwnersTest::allAreSurplusWithoutTheNumber)
            .holds("Of those with a number that the text has, one counts: one of the issue that it has in the text, "
                + "if there is one, and otherwise any one, which is old; all the others are surplus.",
                TermsOwnersTest::oneOfTheTextsIssueCounts, TermsOwnersTest::anyOtherOneIsOld,
                TermsOwnersTest::sixtyOfOneNumber, TermsOwnersTest::laterIssueIsOldToo)
            .holds("Numbers of the text of which the binder has no leaf are missing.",
                TermsOwnersTest::missingNumbers, TermsOwnersTest::oldLeafIsNotMissing)
            .holds("A binder is right if nothing is surplus, old or missing.",
                TermsOwnersTest::rightIfEmptyAsTheText, TermsOwnersTest::wrongIfOneIsSurplus,
                TermsOwnersTest::wrongIfOneIsOld, TermsOwnersTest::wrongIfOneIsMissing,
                TermsOwnersTest::wrongWithTheSameLeavesAndCheckNumber)
            .holds("The check number of a binder is the sum, over all of its leaves, of the leaf's number times its "
                + "issue and 1 together, left over by 997.",
                TermsOwnersTest::checkNumberOfNoLeaves, TermsOwnersTest::checkNumberAround997,
                TermsOwnersTest::checkNumberCountsEachLeaf, TermsOwnersTest::highestSum);
    }

    public static void main(String[] args) {
        section().run();
    }

    private static void upTo8Owners() {
        Subject x = new Subject();
        for (int owner = 0; owner < 8; owner++) {
            Check.due("of(" + owner + ", 0)", x.of(owner, 0), Check.NO_SUCH);
            Check.due("own() " + owner, x.own(), owner);
            Check.due("of(" + owner + ", 0)", x.of(owner, 0), 0);
        }
        Check.due("the ninth own()", x.own(), Check.TOO_MANY);
        Check.due("of(8, 0)", x.of(8, 0), Check.NO_SUCH);
        Check.due("count(1)", x.count(1), 8);
    }

    private static void eachWithABinder() {
        Subject x = Make.parcels("+1.0");
        for (int owner = 0; owner < 8; owner++) {
            x.own();
            Make.hand(x, owner, 20 + owner, 0, owner);
        }
        for (int owner = 0; owner < 8; owner++) {
            Check.due("of(" + owner + ", 0)", x.of(owner, 0), owner + 1);
            Check.due("its leaves", x.leaf(owner, 20 + owner, 0), owner);
            Check.due("of(" + owner + ", 7)", x.of(owner, 7), 10 + owner * (20 + owner));
        }
        Check.due("count(2)", x.count(2), 1);
    }

    private static void binderIsEmptyAtFirst() {
        Subject x = Make.waiting("+1.0");
        Check.due("of(0, 0), came ahead of the parcel", x.of(0, 0), 0);
        Check.due("leaf(0, 10, 0)", x.leaf(0, 10, 0), 0);
        Check.due("of(0, 7)", x.of(0, 7), 0);
    }

    private static void binderIsTheTextAtFirst() {
        Subject x = Make.parcels("+1.0,+2.0,+3.0", "-2.0,+3.0,+9.9");
        x.own();
        Check.due("of(0, 0)", x.of(0, 0), 3);
        for (int number = 10; number <= 99; number++) {
            int issue = x.text(number);
            Check.due("leaf(0, " + number + ", 1)", x.leaf(0, number, 1), issue);
        }
        Check.due("of(0, 6)", x.of(0, 6), 1);
    }

    private static void binderIsAFullTextAtFirst() {
        Subject x = Make.full();
        Check.due("of(0, 0)", x.of(0, 0), 60);
        Check.due("of(0, 6)", x.of(0, 6), 1);
        Check.due("of(0, 7)", x.of(0, 7), x.count(3));
    }

    private static void binderStaysWhenTheTextChanges() {
        Subject x = Make.parcels("+1.0,+2.0");
        x.own();
        Make.issueAll(x, "-1.0,+2.0,+3.0");
        x.own();
        Check.due("of(0, 7), the text changed", x.of(0, 7), 30);
        Check.due("of(1, 7), came behind that", x.of(1, 7), 100);
        x.hand(0, 10, 0, false);
        x.hand(1, 99, 0, true);
        Check.due("text(10)", x.text(10), Check.NONE);
        Check.due("text(99), a binder changed", x.text(99), Check.NONE);
        Check.due("of(0, 7)", x.of(0, 7), 20);
        Check.due("count(3)", x.count(3), 100);
    }

    private static void laterParcelsWait() {
        Subject x = Make.parcels("+1.0");
        x.own();
        Make.issueAll(x, "+2.0");
        x.own();
        Make.issueAll(x, "+3.0");
        Check.due("of(0, 1)", x.of(0, 1), 6);
        Check.due("of(1, 1)", x.of(1, 1), 4);
        Check.due("done(0, 1, true)", x.done(0, 1, true), 2);
        Check.due("done(1, 2, true)", x.done(1, 2, true), 3);
    }

    private static void untilDoneOrLost() {
        Subject x = Make.issueAll(Make.owners(2), "+1.0", "+2.0", "+3.0", "+4.0");
        x.done(0, 0, true);
        Check.due("of(0, 1), one done with care", x.of(0, 1), 14);
        x.done(0, 1, false);
        Check.due("of(0, 1), one done carelessly", x.of(0, 1), 12);
        x.lose(0, 2);
        Check.due("of(0, 1), one lost", x.of(0, 1), 8);
        Check.due("of(1, 1), the other owner's", x.of(1, 1), 15);
        x.doAll(0);
        Check.due("of(0, 1), all done", x.of(0, 1), 0);
        for (int parcel = 0; parcel < 4; parcel++) {
            Check.due("done(0, " + parcel + ", true)", x.done(0, parcel, true), Check.NOT_POSSIBLE);
        }
    }

    private static void olderParcelsCountAsDone() {
        Subject x = Make.parcels("+1.0", "+2.0");
        x.own();
        Check.due("of(0, 1), none waits", x.of(0, 1), 0);
        Check.due("of(0, 2), none is lost", x.of(0, 2), 0);
        Check.due("done(0, 1, true)", x.done(0, 1, true), Check.NOT_POSSIBLE);
        Check.due("lose(0, 0)", x.lose(0, 0), Check.NOT_POSSIBLE);
        Check.due("doAll(0)", x.doAll(0), 0);
        Check.due("again(0, 0)", x.again(0, 0), 1);
    }

    private static void wrong(Subject x, int number, int surplus, int old, int missing) {
        Check.due("leaf(0, " + number + ", 3)", x.leaf(0, number, 3), surplus);
        Check.due("leaf(0, " + number + ", 4)", x.leaf(0, number, 4), old);
        Check.due("leaf(0, " + number + ", 5)", x.leaf(0, number, 5), missing);
    }

    private static void wrong(Subject x, int surplus, int old, int missing) {
        Check.due("of(0, 3)", x.of(0, 3), surplus);
        Check.due("of(0, 4)", x.of(0, 4), old);
        Check.due("of(0, 5)", x.of(0, 5), missing);
        Check.due("of(0, 6)", x.of(0, 6), surplus + old + missing == 0 ? 1 : 0);
    }

    private static void allAreSurplusWithoutTheNumber() {
        Subject x = Make.parcels("+1.0,+9.9", "-9.9");
        x.own();
        x.hand(0, 99, 0, true);
        wrong(x, 99, 1, 0, 0);
        x.hand(0, 99, 0, true);
        x.hand(0, 99, 1, true);
        wrong(x, 99, 3, 0, 0);
        x.hand(0, 11, 0, true);
        wrong(x, 11, 1, 0, 0);
        wrong(x, 4, 0, 0);
        Make.hand(x, 0, 50, 0, 55);
        wrong(x, 50, 55, 0, 0);
        wrong(x, 59, 0, 0);
        wrong(x, 12, 0, 0, 0);
    }

    private static void oneOfTheTextsIssueCounts() {
        Subject x = Make.parcels("+1.0", "+1.0", "+2.0");
        x.own();
        wrong(x, 10, 0, 0, 0);
        x.hand(0, 10, 1, true);
        wrong(x, 10, 1, 0, 0);
        x.hand(0, 10, 0, true);
        wrong(x, 10, 2, 0, 0);
        x.hand(0, 10, 2, true);
        wrong(x, 10, 3, 0, 0);
        wrong(x, 3, 0, 0);
    }

    private static void anyOtherOneIsOld() {
        Subject x = Make.parcels("+1.0", "+1.0", "+2.0");
        x.own();
        x.hand(0, 10, 1, false);
        x.hand(0, 10, 0, true);
        wrong(x, 10, 0, 1, 0);
        x.hand(0, 10, 0, true);
        wrong(x, 10, 1, 1, 0);
        x.hand(0, 10, 2, true);
        wrong(x, 10, 2, 1, 0);
        wrong(x, 2, 1, 0);
        x.hand(0, 10, 1, true);
        wrong(x, 10, 3, 0, 0);
    }

    private static void laterIssueIsOldToo() {
        Subject x = Make.parcels("+1.0", "+2.0");
        x.own();
        x.hand(0, 10, 0, false);
        x.hand(0, 10, 1, true);
        wrong(x, 10, 0, 1, 0);
        wrong(x, 0, 1, 0);
    }

    private static void sixtyOfOneNumber() {
        Subject x = Make.parcels("+1.0", "+1.0");
        x.own();
        x.hand(0, 10, 1, false);
        Make.hand(x, 0, 10, 0, 60);
        wrong(x, 10, 59, 1, 0);
        wrong(x, 59, 1, 0);
        x.hand(0, 10, 0, false);
        x.hand(0, 10, 1, true);
        wrong(x, 10, 59, 0, 0);
        wrong(x, 59, 0, 0);
    }

    private static void missingNumbers() {
        Subject x = Make.issueSixty(Make.owners(1));
        wrong(x, 10, 0, 0, 1);
        wrong(x, 69, 0, 0, 1);
        wrong(x, 70, 0, 0, 0);
        wrong(x, 0, 0, 60);
        x.done(0, 7, true);
        wrong(x, 69, 0, 0, 0);
        wrong(x, 0, 0, 56);
        x.hand(0, 99, 0, true);
        wrong(x, 1, 0, 56);
        Make.issueAll(x, "-1.0");
        wrong(x, 10, 0, 0, 0);
        wrong(x, 1, 0, 55);
    }

    private static void oldLeafIsNotMissing() {
        Subject x = Make.parcels("+1.0", "+1.0");
        x.own();
        x.hand(0, 10, 1, false);
        wrong(x, 10, 0, 0, 1);
        x.hand(0, 10, 0, true);
        wrong(x, 10, 0, 1, 0);
    }

    private static void rightIfEmptyAsTheText() {
        Subject x = Make.owners(1);
        wrong(x, 0, 0, 0);
        Make.issueAll(x, "-1.0");
        wrong(x, 0, 0, 0);
        Check.due("count(4)", x.count(4), 1);
    }

    private static void wrongIfOneIsSurplus() {
        Subject x = Make.full();
        x.hand(0, 69, 7, false);
        Make.issueAll(x, "-6.9");
        wrong(x, 0, 0, 0);
        x.hand(0, 10, 0, true);
        wrong(x, 1, 0, 0);
        x.hand(0, 10, 0, false);
        x.hand(0, 69, 7, true);
        wrong(x, 1, 0, 0);
        Check.due("count(4)", x.count(4), 0);
    }

    private static void wrongIfOneIsOld() {
        Subject x = Make.full();
        wrong(x, 0, 0, 0);
        x.hand(0, 69, 7, false);
        x.hand(0, 69, 6, true);
        wrong(x, 0, 1, 0);
        Check.due("count(4)", x.count(4), 0);
    }

    private static void wrongIfOneIsMissing() {
        Subject x = Make.full();
        x.hand(0, 10, 0, false);
        wrong(x, 0, 0, 1);
        Check.due("count(4)", x.count(4), 0);
    }

    private static void wrongWithTheSameLeavesAndCheckNumber() {
        Subject x = Make.parcels("+1.0,+3.0");
        x.own();
        x.hand(0, 10, 0, false);
        x.hand(0, 30, 0, false);
        x.hand(0, 20, 0, true);
        x.hand(0, 20, 0, true);
        Check.due("of(0, 0)", x.of(0, 0), x.count(2));
        Check.due("of(0, 7)", x.of(0, 7), x.count(3));
        wrong(x, 2, 0, 2);
    }

    private static void checkNumberOfNoLeaves() {
        Subject x = Make.waiting("-1.0");
        Check.due("of(0, 7)", x.of(0, 7), 0);
        Check.due("count(3)", x.count(3), 0);
    }

    /** An object with 16 parcels, and an owner whose binder has no leaves. */
    private static Subject allIssues() {
        Subject x = Make.owners(1);
        for (int parcel = 0; parcel < 16; parcel++) {
            Make.issueAll(x, "-1.0");
        }
        return x;
    }

    /** The check number of leaves, each of them told by its number and its issue. */
    private static void checkNumber(int want, int... leaves) {
        Subject x = allIssues();
        for (int i = 0; i < leaves.length; i += 2) {
            x.hand(0, leaves[i], leaves[i + 1], true);
        }
        Check.due("of(0, 7)", x.of(0, 7), want);
    }

    private static void checkNumberAround997() {
        checkNumber(996, 83, 11);
        checkNumber(0, 97, 9, 27, 0);
        checkNumber(1, 97, 9, 14, 1);
        checkNumber(996, 97, 9, 97, 9, 53, 0);
        checkNumber(0, 97, 9, 97, 9, 54, 0);
        checkNumber(1, 97, 9, 97, 9, 55, 0);
    }

    private static void checkNumberCountsEachLeaf() {
        Subject x = Make.parcels("+1.0,+2.0", "+2.0");
        x.own();
        Check.due("count(3)", x.count(3), 10 + 40);
        Check.due("of(0, 7)", x.of(0, 7), 10 + 40);
        x.hand(0, 20, 1, true);
        Check.due("of(0, 7), one twice", x.of(0, 7), 10 + 80);
        x.hand(0, 99, 0, true);
        Check.due("of(0, 7), a surplus one", x.of(0, 7), 10 + 80 + 99);
        Check.due("count(3), as before", x.count(3), 10 + 40);
    }

    private static void highestSum() {
        Subject x = allIssues();
        Make.hand(x, 0, 99, 15, 60);
        Check.due("of(0, 7)", x.of(0, 7), 60 * 99 * 16 % 997);
    }
}
