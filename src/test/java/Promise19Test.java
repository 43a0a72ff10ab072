/** wipe. */
public final class Promise19Test {
    static Section section() {
        return new Section("Promise 19: wipe")
            .holds("Empties the pad,",
                Promise19Test::isEmpty, Promise19Test::nothingElseChanges, Promise19Test::isNotUndone)
            .holds("and returns the length that it had.",
                Promise19Test::length0To48, Promise19Test::emptyAlready);
    }

    public static void main(String[] args) {
        section().run();
    }

    private static void isEmpty() {
        Subject x = new Subject();
        Make.type(x, "+1.0");
        x.wipe();
        Check.due("count(7)", x.count(7), 0);
        Check.due("fault()", x.fault(), 0);
        Check.due("issue()", x.issue(), Check.BAD_TEXT);
        Check.due("put() behind wipe()", x.put('+'), 1);
        Check.due("fault()", x.fault(), 1);
    }

    private static void nothingElseChanges() {
        Subject empty = Make.rich();
        Make.issue(empty, "");
        Check.changesNothing(empty, "wipe() of an empty pad", Subject::wipe);
        Subject x = Make.rich();
        x.wipe();
        Check.same("wipe()", Picture.of(x), Picture.of(Make.rich()));
        Check.due("count(8)", x.count(8), 6);
    }

    private static void isNotUndone() {
        Subject x = Make.owners(1);
        Make.type(x, "+1.0");
        x.wipe();
        Check.due("undo()", x.undo(), 0);
        Check.due("count(7)", x.count(7), 0);
        Check.due("count(1), own() was undone", x.count(1), 0);
    }

    private static void length0To48() {
        for (int length = 0; length <= 48; length++) {
            Subject x = new Subject();
            Make.type(x, "x".repeat(length));
            Check.due("wipe() of " + length, x.wipe(), length);
        }
    }

    private static void emptyAlready() {
        Subject x = new Subject();
        Check.due("wipe() of a new pad", x.wipe(), 0);
        Make.type(x, "+1.0");
        x.wipe();
        Check.due("wipe() once more", x.wipe(), 0);
        Make.issueAll(x, "+1.0");
        Check.due("wipe() of an issued pad", x.wipe(), 0);
    }
}
