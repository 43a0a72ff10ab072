import java.util.ArrayList;
import java.util.List;
import java.util.Map;

/** undo. */
public final class Promise21Test {
    static Section section() {
        return new Section("Promise 21: undo")
            .holds("Undoes the latest change: everything except the pad, the slots and the history is as it was "
                + "before it.",
                Promise21Test::everyKindOfChange, Promise21Test::parcelWhoseNumberComesAgain,
                Promise21Test::padStays, Promise21Test::slotsStay, Promise21Test::isNoChange)
            .holds("A history of at most 6 states is kept:", Promise21Test::sixStates)
            .holds("each method that is a change, and returns no error, records the state before it",
                Promise21Test::errorsAreNotRecorded, Promise21Test::othersAreNotRecorded)
            .holds("(also if nothing is different then);", Promise21Test::nothingIsDifferent)
            .holds("when one more is recorded, the oldest one is dropped.",
                Promise21Test::oldestIsDropped, Promise21Test::manyTimesRound)
            .holds("Returns how many changes can be undone then;", Promise21Test::from5To0)
            .holds("NOT_POSSIBLE if there is none.",
                Promise21Test::newObject, Promise21Test::allUndone, Promise21Test::sixUndone);
    }

    public static void main(String[] args) {
        section().run();
    }

    private static void everyKindOfChange() {
        Subject x = Make.parcels("+1.0,+2.0");
        x.own();
        x.save(1);
        Make.issueAll(x, "-1.0,+3.0", "+4.0", "+5.0");
        Make.hand(x, 0, 10, 0, 2);
        Check.isChange(x, "issue()", y -> Make.issue(y, "+6.0,-2.0"));
        Check.isChange(x, "own()", Subject::own);
        Check.isChange(x, "done(0, 1, true)", y -> y.done(0, 1, true));
        Check.isChange(x, "done(0, 1, false)", y -> y.done(0, 1, false));
        Check.isChange(x, "doAll(0)", y -> y.doAll(0));
        Check.isChange(x, "lose(0, 2)", y -> y.lose(0, 2));
        Check.isChange(x, "again(0, 0)", y -> y.again(0, 0));
        Check.isChange(x, "hand(0, 99, 2, true)", y -> y.hand(0, 99, 2, true));
        Check.isChange(x, "hand(0, 10, 0, false)", y -> y.hand(0, 10, 0, false));
        Check.isChange(x, "restore(1)", y -> y.restore(1));
        x.lose(0, 3);
        Check.isChange(x, "again(0, 3)", y -> y.again(0, 3));
        x.undo();
        Check.isChange(x, "lose(0, 3) behind undo()", y -> y.lose(0, 3));
    }

    /** A parcel that comes back has its own orders, not those of one that had its number since. */
    private static void parcelWhoseNumberComesAgain() {
        Subject x = Make.owners(1);
        x.save(0);
        Make.issueAll(x, "+1.0,-2.0,+3.0");
        Map<String, Integer> before = Picture.of(x);
        x.restore(0);
        Make.issueAll(x, "-4.0,+5.0");
        x.undo();
        Check.due("undo() of restore(0)", x.undo(), 2);
        Check.same("undo() of restore(0)", Picture.of(x), before);
        x.doAll(0);
        Check.due("of(0, 7)", x.of(0, 7), 40);
    }

    private static void padStays() {
        Subject x = Make.owners(2);
        Make.type(x, "+1.0,");
        Map<String, Integer> pad = Picture.ofPad(x);
        x.undo();
        Check.same("undo(), the pad", Picture.ofPad(x), pad);
        Make.type(x, "-2.0");
        x.issue();
        x.undo();
        Check.due("count(7), undo() does not bring it back", x.count(7), 0);
        Make.type(x, "+3.0");
        x.undo();
        Check.due("count(7)", x.count(7), 4);
        Check.due("fault()", x.fault(), Check.NONE);
    }

    private static void slotsStay() {
        Subject x = Make.owners(1);
        x.own();
        x.save(1);
        x.undo();
        x.undo();
        Check.due("count(1)", x.count(1), 0);
        Check.due("restore(1), saved behind what was undone", x.restore(1), 0);
        Check.due("count(1)", x.count(1), 2);
        x.save(0);
        x.undo();
        Check.due("count(1)", x.count(1), 0);
        x.restore(0);
        Check.due("count(1), saved ahead of undo()", x.count(1), 2);
    }

    private static void isNoChange() {
        Subject x = Make.owners(3);
        Check.due("undo()", x.undo(), 2);
        Check.due("count(8)", x.count(8), 2);
        Check.due("undo() goes on", x.undo(), 1);
        Check.due("count(1)", x.count(1), 1);
        x.own();
        Check.due("count(8), a change behind undo()", x.count(8), 2);
        Check.due("undo() of that", x.undo(), 1);
        Check.due("count(1)", x.count(1), 1);
    }

    /** Six states are kept, and all of them come back one after the other. */
    private static void sixStates() {
        Subject x = Make.waiting("+1.0", "+2.0");
        List<Map<String, Integer>> states = new ArrayList<>();
        for (int i = 0; i < 6; i++) {
            states.add(Picture.of(x));
            x.hand(0, 90 + i, i % 2, true);
        }
        for (int i = 5; i >= 0; i--) {
            Check.due("undo()", x.undo(), i);
            Check.same("undo() down to " + i, Picture.of(x), states.get(i));
        }
    }

    private static void errorsAreNotRecorded() {
        Subject x = Make.waiting("+1.0");
        int changes = x.count(8);
        x.issue();
        x.done(0, 1, true);
        x.doAll(1);
        x.lose(1, 0);
        x.again(0, 0);
        x.hand(0, 10, 0, false);
        x.hand(0, 9, 0, true);
        x.restore(0);
        x.restore(2);
        Check.due("count(8)", x.count(8), changes);
        Subject owners = Make.owners(8);
        owners.undo();
        owners.own();
        owners.own();
        Check.due("count(8), the ninth own()", owners.count(8), 6);
        owners.undo();
        Check.due("count(1)", owners.count(1), 7);
    }

    private static void othersAreNotRecorded() {
        Subject x = Make.waiting("+1.0");
        int changes = x.count(8);
        x.save(0);
        x.put('+');
        x.fault();
        x.wipe();
        x.parcel(0, 0);
        x.text(10);
        x.leaf(0, 10, 0);
        x.of(0, 0);
        x.ifDone(0, 0);
        x.ifAllDone(0);
        x.mending(0);
        x.rightFrom(0);
        Check.due("count(8)", x.count(8), changes);
    }

    private static void nothingIsDifferent() {
        Subject x = Make.owners(1);
        Check.due("doAll(0) of none", x.doAll(0), 0);
        Check.due("count(8)", x.count(8), 2);
        x.save(0);
        x.restore(0);
        Check.due("count(8), restored as it is", x.count(8), 3);
        Make.issueAll(x, "-1.0");
        x.again(0, 0);
        x.done(0, 0, true);
        Check.due("count(8), a parcel that takes nothing out", x.count(8), 5);
        Check.due("undo()", x.undo(), 4);
        Check.due("undo()", x.undo(), 3);
        Check.due("count(0)", x.count(0), 0);
        Check.due("undo() of restore(0)", x.undo(), 2);
        Check.due("undo() of doAll(0)", x.undo(), 1);
        Check.due("count(1)", x.count(1), 1);
        Check.due("undo() of own()", x.undo(), 0);
        Check.due("count(1)", x.count(1), 0);
    }

    private static void oldestIsDropped() {
        Subject x = Make.owners(7);
        Check.due("count(8)", x.count(8), 6);
        for (int left = 5; left >= 0; left--) {
            Check.due("undo()", x.undo(), left);
            Check.due("count(1)", x.count(1), left + 1);
        }
        Check.due("undo() of the first own()", x.undo(), Check.NOT_POSSIBLE);
        Check.due("count(1)", x.count(1), 1);
    }

    /** More changes than are kept, several times round, with undo in between. */
    private static void manyTimesRound() {
        Subject x = Make.waiting("+1.0");
        List<Map<String, Integer>> kept = new ArrayList<>();
        Subject before = new Subject();
        kept.add(Picture.of(before));
        before.own();
        kept.add(Picture.of(before));
        for (int i = 0; i < 40; i++) {
            if (i % 5 == 3) {
                x.undo();
                Check.same("undo() at " + i, Picture.of(x), kept.remove(kept.size() - 1));
            } else {
                kept.add(Picture.of(x));
                x.hand(0, 10 + i, 0, true);
            }
            while (kept.size() > 6) {
                kept.remove(0);
            }
            Check.due("count(8) at " + i, x.count(8), kept.size());
        }
        for (int left = kept.size() - 1; left >= 0; left--) {
            Check.due("undo() at the end", x.undo(), left);
            Check.same("undo() down to " + left, Picture.of(x), kept.get(left));
        }
        Check.due("undo() behind that", x.undo(), Check.NOT_POSSIBLE);
    }

    private static void from5To0() {
        for (int changes = 1; changes <= 8; changes++) {
            Subject x = Make.owners(changes);
            for (int left = Math.min(changes, 6) - 1; left >= 0; left--) {
                Check.due("undo()", x.undo(), left);
                Check.due("count(8)", x.count(8), left);
            }
        }
    }

    private static void newObject() {
        Check.fails(new Subject(), "undo()", Subject::undo, Check.NOT_POSSIBLE);
    }

    private static void allUndone() {
        Subject x = Make.waiting("+1.0");
        x.undo();
        x.undo();
        x.save(0);
        Make.type(x, "+2.0");
        Check.fails(x, "undo()", Subject::undo, Check.NOT_POSSIBLE);
    }

    private static void sixUndone() {
        Subject x = Make.rich();
        for (int i = 0; i < 6; i++) {
            x.undo();
        }
        Check.fails(x, "the seventh undo()", Subject::undo, Check.NOT_POSSIBLE);
    }
}
