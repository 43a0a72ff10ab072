/** A new object. */
public final class Promise01Test {
    static Section section() {
        return new Section("Promise 1: A new object")
            .holds("`BinderParcels()`: Creates an empty text;", Promise01Test::emptyText)
            .holds("no parcels, no owners.",
                Promise01Test::noParcels, Promise01Test::noOwners, Promise01Test::nothingElse,
                Promise01Test::sharesNothing);
    }

    public static void main(String[] args) {
        section().run();
    }

    private static void emptyText() {
        Subject x = new Subject();
        for (int number = 10; number <= 99; number++) {
            Check.due("text(" + number + ")", x.text(number), Check.NONE);
        }
        Check.due("count(2)", x.count(2), 0);
        Check.due("count(3)", x.count(3), 0);
        Check.due("count(5)", x.count(5), 0);
        Check.due("count(6)", x.count(6), Check.NONE);
    }

    private static void noParcels() {
        Subject x = new Subject();
        Check.due("count(0)", x.count(0), 0);
        for (int parcel = -1; parcel <= 16; parcel++) {
            Check.due("parcel(" + parcel + ", 0)", x.parcel(parcel, 0), Check.NO_SUCH);
        }
    }

    private static void noOwners() {
        Subject x = new Subject();
        Check.due("count(1)", x.count(1), 0);
        Check.due("count(4)", x.count(4), 0);
        for (int owner = -1; owner <= 8; owner++) {
            Check.due("of(" + owner + ", 0)", x.of(owner, 0), Check.NO_SUCH);
        }
    }

    private static void nothingElse() {
        Subject x = new Subject();
        Check.due("count(7)", x.count(7), 0);
        Check.due("count(8)", x.count(8), 0);
        Check.due("fault()", x.fault(), 0);
        Check.due("wipe()", x.wipe(), 0);
        Check.due("issue()", x.issue(), Check.BAD_TEXT);
        Check.due("undo()", x.undo(), Check.NOT_POSSIBLE);
        Check.due("restore(0)", x.restore(0), Check.NOT_POSSIBLE);
        Check.due("restore(1)", x.restore(1), Check.NOT_POSSIBLE);
    }

    private static void sharesNothing() {
        Subject x = Make.rich();
        x.save(0);
        emptyText();
        noParcels();
        noOwners();
        nothingElse();
        Check.same("other new objects", Picture.of(x), Picture.of(Make.rich()));
    }
}
