/** Conventions: errors, NONE, numbers and sets. */
public final class TermsConventionsTest {
    static Section section() {
        return new Section("Terms")
            .holds("CONVENTIONS. A method that fails returns one of the error codes NO_SUCH (-1), BAD_VALUE (-2), "
                + "BAD_TEXT (-3), TOO_MANY (-4) and NOT_POSSIBLE (-5);", TermsConventionsTest::everyErrorCode)
            .holds("it names its errors in the order in which they are checked, and the first one that applies is "
                + "returned.",
                TermsConventionsTest::firstErrorThatAppliesOfIssue,
                TermsConventionsTest::firstErrorThatAppliesOfHand,
                TermsConventionsTest::firstErrorThatAppliesOfOthers)
            .holds("A call that returns an error changes nothing.",
                TermsConventionsTest::errorsOfChangesChangeNothing,
                TermsConventionsTest::errorsOfQuestionsChangeNothing,
                TermsConventionsTest::errorsOfTextsAndSavingChangeNothing)
            .holds("NONE (-6) is not an error; it is returned only if no error applies.",
                TermsConventionsTest::noneOnlyIfNoErrorApplies)
            .holds("Everything is numbered from 0.", TermsConventionsTest::numberedFrom0)
            .holds("Sets of parcels, and of owners, are bit masks.",
                TermsConventionsTest::setsOfParcelsAreBitMasks, TermsConventionsTest::setsOfOwnersAreBitMasks)
            .holds("The constants: `NO_SUCH = -1, BAD_VALUE = -2, BAD_TEXT = -3, TOO_MANY = -4, NOT_POSSIBLE = -5, "
                + "NONE = -6`: Error codes, and NONE: there is none.", TermsConventionsTest::constants)
            .ordinary("Ahead of the calls `issue`, `own`, `done`, `doAll`, `lose`, `again`, `hand` the interface "
                + "says: ---- changes.")
            .holds("Ahead of the calls `parcel`, `text`, `leaf`, `of`, `count` the interface says: ---- what there "
                + "is.", TermsConventionsTest::whatThereIsChangesNothing)
            .holds("Ahead of the calls `ifDone`, `ifAllDone`, `mending`, `rightFrom` the interface says: ---- what "
                + "if; nothing changes.", TermsConventionsTest::whatIfChangesNothing)
            .ordinary("Ahead of the calls `put`, `wipe`, `fault` the interface says: ---- texts.",
                "Ahead of the calls `undo`, `save`, `restore` the interface says: ---- undo, saving.");
    }

    public static void main(String[] args) {
        section().run();
    }

    private static void everyErrorCode() {
        Subject x = new Subject();
        Check.due("doAll(0)", x.doAll(0), -1);
        Check.due("count(9)", x.count(9), -2);
        Check.due("issue()", x.issue(), -3);
        Check.due("undo()", x.undo(), -5);
        Make.type(x, "x".repeat(48));
        Check.due("put('x')", x.put('x'), -4);
    }

    private static void constants() {
        Check.due("NO_SUCH", BinderParcels.NO_SUCH, -1);
        Check.due("BAD_VALUE", BinderParcels.BAD_VALUE, -2);
        Check.due("BAD_TEXT", BinderParcels.BAD_TEXT, -3);
        Check.due("TOO_MANY", BinderParcels.TOO_MANY, -4);
        Check.due("NOT_POSSIBLE", BinderParcels.NOT_POSSIBLE, -5);
        Check.due("NONE", BinderParcels.NONE, -6);
    }

    private static void firstErrorThatAppliesOfIssue() {
        Subject x = new Subject();
        Check.due("a fault, a number twice", Make.issue(x, "+1.0,+1.0,"), Check.BAD_TEXT);
        for (int parcel = 0; parcel < 16; parcel++) {
            Make.issue(x, "+1.0");
        }
        Check.due("a fault, a number twice, 16 parcels", Make.issue(x, "+1.0,+1.0,"), Check.BAD_TEXT);
        Check.due("a fault, 16 parcels", Make.issue(x, ""), Check.BAD_TEXT);
        Check.due("a number twice, 16 parcels", Make.issue(x, "+1.0,+1.0"), Check.BAD_VALUE);
        Check.due("16 parcels", Make.issue(x, "+1.0"), Check.TOO_MANY);
    }

    private static void firstErrorThatAppliesOfHand() {
        Subject x = Make.full();
        for (int i = 0; i < 2; i++) {
            boolean isPutIn = i == 1;
            Check.due("no owner, a bad number", x.hand(1, 9, 0, isPutIn), Check.NO_SUCH);
            Check.due("no owner, none there or full", x.hand(1, 99, 0, isPutIn), Check.NO_SUCH);
            Check.due("no parcel, a bad number", x.hand(0, 100, 8, isPutIn), Check.NO_SUCH);
            Check.due("no parcel, none there or full", x.hand(0, 99, 8, isPutIn), Check.NO_SUCH);
            Check.due("a bad number, none there or full", x.hand(0, 100, 0, isPutIn), Check.BAD_VALUE);
            Check.due("none there or full", x.hand(0, 99, 0, isPutIn), Check.NOT_POSSIBLE);
        }
    }

    private static void firstErrorThatAppliesOfOthers() {
        Subject x = Make.waiting("+1.0");
        Check.due("parcel: no parcel, what", x.parcel(1, 11), Check.NO_SUCH);
        Check.due("leaf: no owner, number, what", x.leaf(1, 9, 6), Check.NO_SUCH);
        Check.due("leaf: no owner, number", x.leaf(1, 9, 0), Check.NO_SUCH);
        Check.due("leaf: no owner, what", x.leaf(1, 10, 6), Check.NO_SUCH);
        Check.due("of: no owner, what", x.of(1, 8), Check.NO_SUCH);
        Check.due("restore: no slot, nothing saved", x.restore(2), Check.BAD_VALUE);
        Make.type(x, "x".repeat(48));
        Check.due("put: no character, too many", x.put(0), Check.BAD_VALUE);
        Check.due("put: a bad code, too many", x.put(Make.packed("a b")), Check.BAD_VALUE);
        Check.due("put: a bit above a 0, too many", x.put('a' << 16 | 'b'), Check.BAD_VALUE);
        Check.due("put: too many", x.put('a'), Check.TOO_MANY);
    }

    private static void errorsOfChangesChangeNothing() {
        Subject x = Make.rich();
        Check.fails(x, "issue(), too many", Subject::issue, Check.TOO_MANY);
        Check.fails(x, "own()", Subject::own, Check.TOO_MANY);
        Check.fails(x, "done(8, 3, true)", y -> y.done(8, 3, true), Check.NO_SUCH);
        Check.fails(x, "done(0, 16, false)", y -> y.done(0, 16, false), Check.NO_SUCH);
        Check.fails(x, "done(0, 15, true)", y -> y.done(0, 15, true), Check.NOT_POSSIBLE);
        Check.fails(x, "done(0, 14, false)", y -> y.done(0, 14, false), Check.NOT_POSSIBLE);
        Check.fails(x, "doAll(8)", y -> y.doAll(8), Check.NO_SUCH);
        Check.fails(x, "lose(8, 3)", y -> y.lose(8, 3), Check.NO_SUCH);
        Check.fails(x, "lose(0, 15)", y -> y.lose(0, 15), Check.NOT_POSSIBLE);
        Check.fails(x, "again(-1, 3)", y -> y.again(-1, 3), Check.NO_SUCH);
        Check.fails(x, "again(0, 3)", y -> y.again(0, 3), Check.NOT_POSSIBLE);
        Check.fails(x, "hand(0, 20, 16, true)", y -> y.hand(0, 20, 16, true), Check.NO_SUCH);
        Check.fails(x, "hand(0, 9, 3, true)", y -> y.hand(0, 9, 3, true), Check.BAD_VALUE);
        Check.fails(x, "hand(1, 13, 14, false)", y -> y.hand(1, 13, 14, false), Check.NOT_POSSIBLE);
        x.put(',');
        Check.fails(x, "issue(), a fault", Subject::issue, Check.BAD_TEXT);
        Make.type(x, "-1.0");
        Check.fails(x, "issue(), a number twice", Subject::issue, Check.BAD_VALUE);
    }

    private static void errorsOfQuestionsChangeNothing() {
        Subject x = Make.rich();
        Check.fails(x, "parcel(16, 0)", y -> y.parcel(16, 0), Check.NO_SUCH);
        Check.fails(x, "parcel(0, 11)", y -> y.parcel(0, 11), Check.BAD_VALUE);
        Check.fails(x, "text(9)", y -> y.text(9), Check.BAD_VALUE);
        Check.fails(x, "leaf(8, 10, 0)", y -> y.leaf(8, 10, 0), Check.NO_SUCH);
        Check.fails(x, "leaf(0, 100, 0)", y -> y.leaf(0, 100, 0), Check.BAD_VALUE);
        Check.fails(x, "leaf(0, 10, 6)", y -> y.leaf(0, 10, 6), Check.BAD_VALUE);
        Check.fails(x, "of(8, 0)", y -> y.of(8, 0), Check.NO_SUCH);
        Check.fails(x, "of(0, 8)", y -> y.of(0, 8), Check.BAD_VALUE);
        Check.fails(x, "count(9)", y -> y.count(9), Check.BAD_VALUE);
        Check.fails(x, "ifDone(8, 0)", y -> y.ifDone(8, 0), Check.NO_SUCH);
        Check.fails(x, "ifDone(0, 16)", y -> y.ifDone(0, 16), Check.NO_SUCH);
        Check.fails(x, "ifAllDone(8)", y -> y.ifAllDone(8), Check.NO_SUCH);
        Check.fails(x, "mending(8)", y -> y.mending(8), Check.NO_SUCH);
        Check.fails(x, "rightFrom(8)", y -> y.rightFrom(8), Check.NO_SUCH);
    }

    private static void errorsOfTextsAndSavingChangeNothing() {
        Subject x = Make.rich();
        Check.fails(x, "put(0)", y -> y.put(0), Check.BAD_VALUE);
        Check.fails(x, "put of a bad code", y -> y.put(Make.packed(",+ 1")), Check.BAD_VALUE);
        Check.fails(x, "put of a bit above a 0", y -> y.put(1L << 40 | ','), Check.BAD_VALUE);
        Check.fails(x, "save(2)", y -> y.save(2), Check.BAD_VALUE);
        Check.fails(x, "restore(2)", y -> y.restore(2), Check.BAD_VALUE);
        Check.fails(x, "restore(0)", y -> y.restore(0), Check.NOT_POSSIBLE);
        Make.type(x, ",-3.6,-4.7,-5.8,-6.9,-7.1,-8.2");
        x.put(Make.packed(",+1."));
        Check.fails(x, "put of one too many", y -> y.put(Make.packed("0,+1.0")), Check.TOO_MANY);
        Check.fails(new Subject(), "undo()", Subject::undo, Check.NOT_POSSIBLE);
    }

    private static void noneOnlyIfNoErrorApplies() {
        Subject x = Make.waiting("-1.0");
        Check.due("parcel(1, 8)", x.parcel(1, 8), Check.NO_SUCH);
        Check.due("parcel(0, 8)", x.parcel(0, 8), Check.NONE);
        Check.due("text(9)", x.text(9), Check.BAD_VALUE);
        Check.due("text(10)", x.text(10), Check.NONE);
        Check.due("leaf(1, 10, 1)", x.leaf(1, 10, 1), Check.NO_SUCH);
        Check.due("leaf(0, 9, 1)", x.leaf(0, 9, 1), Check.BAD_VALUE);
        Check.due("leaf(0, 10, 1)", x.leaf(0, 10, 1), Check.NONE);
        Check.due("leaf(0, 10, 2)", x.leaf(0, 10, 2), Check.NONE);
        Check.due("count(6)", x.count(6), Check.NONE);
        x.hand(0, 99, 0, true);
        Check.due("mending(1)", x.mending(1), Check.NO_SUCH);
        Check.due("mending(0)", x.mending(0), Check.NONE);
        Check.due("rightFrom(1)", x.rightFrom(1), Check.NO_SUCH);
        Check.due("rightFrom(0)", x.rightFrom(0), Check.NONE);
        Make.type(x, "+1.0");
        Check.due("fault()", x.fault(), Check.NONE);
    }

    private static void numberedFrom0() {
        Subject x = new Subject();
        Check.due("the first owner", x.own(), 0);
        Check.due("the second owner", x.own(), 1);
        Check.due("the first parcel", Make.issue(x, "+1.0"), 0);
        Check.due("the second parcel", Make.issue(x, "+2.0"), 1);
        Check.due("the first parcel's leaf", x.text(10), 0);
        Check.due("the second parcel's leaf", x.text(20), 1);
        Check.due("the first owner does the first parcel", x.done(0, 0, true), 1);
        Check.due("no owner ahead of the first", x.done(-1, 1, true), Check.NO_SUCH);
        Check.due("no third owner", x.done(2, 1, true), Check.NO_SUCH);
        Check.due("no parcel ahead of the first", x.done(0, -1, true), Check.NO_SUCH);
        Check.due("no third parcel", x.done(0, 2, true), Check.NO_SUCH);
        x.put('x');
        Check.due("a fault at the first character", x.fault(), 0);
        Check.due("the first slot", x.save(0), 2);
        Check.due("the second slot", x.save(1), 2);
        Check.due("no third slot", x.save(2), Check.BAD_VALUE);
    }

    private static void setsOfParcelsAreBitMasks() {
        Subject x = Make.owners(1);
        for (int parcel = 0; parcel < 16; parcel++) {
            Check.due("of(0, 1), " + parcel + " parcels", x.of(0, 1), (1 << parcel) - 1);
            Make.issue(x, "+1.0");
        }
        Check.due("of(0, 1), all wait", x.of(0, 1), 65535);
        Check.due("of(0, 2), none is lost", x.of(0, 2), 0);
        Check.due("mending(0), the last one alone", x.mending(0), 32768);
        x.lose(0, 15);
        Check.due("of(0, 2), the last one is lost", x.of(0, 2), 32768);
        x.lose(0, 0);
        Check.due("of(0, 2), the first one, too", x.of(0, 2), 32769);
        Check.due("of(0, 1), the others wait", x.of(0, 1), 32766);
    }

    private static void setsOfOwnersAreBitMasks() {
        Subject x = Make.issueAll(Make.owners(8), "+1.0");
        Check.due("parcel(0, 9), it waits for all", x.parcel(0, 9), 255);
        Check.due("parcel(0, 10), nobody lost it", x.parcel(0, 10), 0);
        Check.due("count(4), no binder is right", x.count(4), 0);
        x.done(7, 0, true);
        Check.due("count(4), the last one's is right", x.count(4), 128);
        x.done(0, 0, true);
        Check.due("count(4), the first one's, too", x.count(4), 129);
        for (int owner = 1; owner < 7; owner++) {
            x.lose(owner, 0);
            Check.due("parcel(0, 10), 1 to " + owner, x.parcel(0, 10), (2 << owner) - 2);
            Check.due("parcel(0, 9), " + owner + " to 6", x.parcel(0, 9), 126 & -(2 << owner));
        }
    }

    private static void whatThereIsChangesNothing() {
        Check.changesNothing(Make.rich(), "what there is", x -> {
            for (int what = 0; what <= 10; what++) {
                x.parcel(5, what);
                x.leaf(1, 13, what);
                x.of(2, what);
                x.count(what);
            }
            x.text(13);
        });
    }

    private static void whatIfChangesNothing() {
        Check.changesNothing(Make.rich(), "what if", x -> {
            for (int owner = 0; owner < 8; owner++) {
                x.ifDone(owner, 3);
                x.ifAllDone(owner);
                x.mending(owner);
                x.rightFrom(owner);
            }
        });
    }
}
