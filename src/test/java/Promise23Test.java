import java.util.Map;

/** restore. */
public final class Promise23Test {
    static Section section() {
        return new Section("Promise 23: restore")
            .holds("Restores what was saved last in a slot,",
                Promise23Test::everything, Promise23Test::parcelWhoseNumberCameAgain, Promise23Test::savedLast,
                Promise23Test::goesOnFromThere)
            .holds("which keeps it.", Promise23Test::keepsIt)
            .holds("This is a change.", Promise23Test::isAChange, Promise23Test::isAChangeIfNothingIsDifferent)
            .holds("- `slot`: 0 or 1", Promise23Test::twoSlots)
            .holds("Returns how many parcels there are then;", Promise23Test::from0To16)
            .holds("BAD_VALUE if there is no such slot;", Promise23Test::noSuchSlot)
            .holds("NOT_POSSIBLE if nothing was saved in it.",
                Promise23Test::nothingSaved, Promise23Test::onlyTheOtherSlot, Promise23Test::savedStaysSaved);
    }

    public static void main(String[] args) {
        section().run();
    }

    private static void everything() {
        Subject x = Make.rich();
        Subject saved = x.twin();
        x.save(0);
        for (int owner = 0; owner < 8; owner++) {
            x.again(owner, 14);
            x.doAll(owner);
            x.again(owner, 3);
            x.lose(owner, 3);
        }
        Check.due("restore(0)", x.restore(0), 16);
        Check.same("restore(0)", Picture.of(x), Picture.of(saved));
        Check.same("restore(0), the pad", Picture.ofPad(x), Picture.ofPad(saved));
    }

    private static void parcelWhoseNumberCameAgain() {
        Subject x = Make.waiting("+1.0,-2.0,+3.0");
        Map<String, Integer> saved = Picture.of(x);
        x.save(0);
        x.undo();
        Make.issueAll(x, "-4.0");
        Check.due("restore(0)", x.restore(0), 1);
        Check.same("restore(0)", Picture.of(x), saved);
        Check.due("doAll(0)", x.doAll(0), 1);
        Check.due("of(0, 6)", x.of(0, 6), 1);
        Check.due("of(0, 0)", x.of(0, 0), 2);
    }

    private static void savedLast() {
        Subject x = Make.owners(1);
        x.save(1);
        x.own();
        x.save(1);
        x.own();
        x.save(0);
        x.restore(1);
        Check.due("count(1)", x.count(1), 2);
    }

    private static void goesOnFromThere() {
        Subject x = Make.waiting("+1.0", "+2.0");
        x.save(0);
        Make.issueAll(x, "+3.0");
        x.own();
        x.restore(0);
        Check.due("parcel(2, 0), not issued then", x.parcel(2, 0), Check.NO_SUCH);
        Check.due("of(1, 0), not there then", x.of(1, 0), Check.NO_SUCH);
        Check.due("issue()", Make.issue(x, "-1.0,+4.0"), 2);
        Check.due("parcel(2, 1)", x.parcel(2, 1), 10);
        Check.due("parcel(2, 9)", x.parcel(2, 9), 1);
        Check.due("own()", x.own(), 1);
        Check.due("of(1, 0)", x.of(1, 0), 2);
        Check.due("done(0, 2, true)", x.done(0, 2, true), 1);
    }

    private static void keepsIt() {
        Subject x = Make.owners(1);
        x.save(0);
        Map<String, Integer> saved = Picture.of(x);
        for (int i = 0; i < 3; i++) {
            x.own();
            Make.issueAll(x, "+1.0");
            x.hand(0, 10, 0, true);
            x.lose(0, 0);
            Check.due("restore(0)", x.restore(0), 0);
            Check.same("restore(0)", Picture.of(x), saved);
        }
        x.undo();
        Check.due("restore(0) behind its undo()", x.restore(0), 0);
        Check.same("restore(0) behind its undo()", Picture.of(x), saved);
    }

    private static void isAChange() {
        Check.isChange(Make.rich(), "restore(1)", x -> x.restore(1));
        Subject x = new Subject();
        x.save(0);
        Make.issueAll(x, "+1.0");
        x.own();
        Check.isChange(x, "restore(0) of nothing", y -> y.restore(0));
    }

    private static void isAChangeIfNothingIsDifferent() {
        Subject x = Make.rich();
        x.undo();
        x.save(0);
        Check.isChange(x, "restore(0) of the same", y -> y.restore(0));
    }

    private static void twoSlots() {
        Subject x = Make.parcels("+1.0");
        x.save(1);
        Make.issueAll(x, "+2.0");
        x.save(0);
        Make.issueAll(x, "+3.0");
        Check.due("restore(0)", x.restore(0), 2);
        Check.due("restore(1)", x.restore(1), 1);
        Check.due("restore(0)", x.restore(0), 2);
    }

    private static void from0To16() {
        Subject x = new Subject();
        for (int parcels = 0; parcels <= 16; parcels++) {
            x.save(0);
            if (parcels < 16) {
                Make.issueAll(x, "+1.0");
                Check.due("restore(0)", x.twin().restore(0), parcels);
            }
        }
        Check.due("restore(0)", x.restore(0), 16);
    }

    private static void noSuchSlot() {
        Subject x = Make.rich();
        x.save(0);
        for (int slot : new int[] {-1, 2, 3, Integer.MIN_VALUE, Integer.MAX_VALUE}) {
            Check.fails(x, "restore(" + slot + ")", y -> y.restore(slot), Check.BAD_VALUE);
        }
        Check.fails(new Subject(), "restore(2), nothing saved", y -> y.restore(2), Check.BAD_VALUE);
    }

    private static void nothingSaved() {
        Check.fails(new Subject(), "restore(0)", x -> x.restore(0), Check.NOT_POSSIBLE);
        Check.fails(new Subject(), "restore(1)", x -> x.restore(1), Check.NOT_POSSIBLE);
    }

    private static void onlyTheOtherSlot() {
        Check.fails(Make.rich(), "restore(0)", x -> x.restore(0), Check.NOT_POSSIBLE);
        Subject x = Make.waiting("+1.0");
        x.save(0);
        x.own();
        Check.fails(x, "restore(1)", y -> y.restore(1), Check.NOT_POSSIBLE);
    }

    private static void savedStaysSaved() {
        Subject x = Make.owners(1);
        x.save(0);
        x.undo();
        Check.due("restore(0), undo() leaves the slots", x.restore(0), 0);
        Check.due("count(1)", x.count(1), 1);
    }
}
