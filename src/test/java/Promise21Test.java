import java.util.ArrayList;
import java.util.List;

/** undo. */
public final class Promise21Test {
    public static void main(String[] args) {
        everyKindOfChange();
        ordersOfParcels();
        sixAtMost();
        padAndSlotsStay();
        errorsAndQuestionsAreNotRecorded();
        nothingToUndo();
        Check.finish();
    }

    private static void everyKindOfChange() {
        BinderParcels x = new BinderParcels();
        Check.issue(x, "+1.0,+2.0");
        x.own();
        x.save(1);
        Check.issue(x, "-1.0,+3.0");
        Check.issue(x, "+4.0");
        x.done(0, 1, true);
        x.lose(0, 2);
        List<List<Integer>> states = new ArrayList<>();
        states.add(Check.picture(x));
        x.hand(0, 20, 0, false);
        states.add(Check.picture(x));
        x.again(0, 2);
        states.add(Check.picture(x));
        x.doAll(0);
        states.add(Check.picture(x));
        Check.issue(x, "+5.0");
        states.add(Check.picture(x));
        x.own();
        states.add(Check.picture(x));
        x.restore(1);
        for (int left = 5; left >= 0; left--) {
            Check.due("undo()", x.undo(), left);
            Check.same("undo() down to " + left, Check.picture(x), states.get(left));
            Check.due("count(8)", x.count(8), left);
        }
        Check.due("one undo() too many", x.undo(), Check.NOT_POSSIBLE);
        Check.same("the failed undo()", Check.picture(x), states.get(0));
    }

    /** A parcel that is gone and comes back has its own orders, not those of one that had its number. */
    private static void ordersOfParcels() {
        BinderParcels x = new BinderParcels();
        x.own();
        x.save(0);
        Check.issue(x, "+1.0,-2.0,+3.0");
        List<Integer> before = Check.picture(x);
        x.restore(0);
        Check.issue(x, "-4.0,+5.0");
        x.undo();
        Check.due("undo() of restore", x.undo(), 2);
        Check.same("undo() of restore", Check.picture(x), before);
        x.doAll(0);
        Check.due("its leaves", x.of(0, 7), 40);
    }

    /** More changes than are kept, several times round, with undo in between. */
    private static void sixAtMost() {
        BinderParcels x = new BinderParcels();
        List<List<Integer>> kept = new ArrayList<>();
        kept.add(Check.picture(x));
        x.own();
        kept.add(Check.picture(x));
        Check.issue(x, "+1.0");
        for (int i = 0; i < 40; i++) {
            if (i % 5 == 3) {
                x.undo();
                Check.same("undo() at " + i, Check.picture(x), kept.remove(kept.size() - 1));
            } else {
                kept.add(Check.picture(x));
                x.hand(0, 10 + i, 0, true);
            }
            while (kept.size() > 6) {
                kept.remove(0);
            }
            Check.due("count(8) at " + i, x.count(8), kept.size());
        }
        for (int left = kept.size() - 1; left >= 0; left--) {
            Check.due("undo() at the end", x.undo(), left);
            Check.same("undo() down to " + left, Check.picture(x), kept.get(left));
        }
        Check.due("undo() behind that", x.undo(), Check.NOT_POSSIBLE);
    }

    private static void padAndSlotsStay() {
        BinderParcels x = new BinderParcels();
        x.own();
        x.save(0);
        x.own();
        Check.type(x, "+1.0");
        x.undo();
        Check.due("the pad stays", x.count(7), 4);
        Check.due("the pad has no fault", x.fault(), Check.NONE);
        x.own();
        x.own();
        x.save(1);
        x.undo();
        x.undo();
        Check.due("owners behind undo()", x.count(1), 1);
        Check.due("the slot stays", x.restore(1), 0);
        Check.due("owners as saved", x.count(1), 3);
        x.undo();
        Check.due("owners behind undo() of restore", x.count(1), 1);
        Check.due("undo()", x.undo(), 0);
        Check.due("the first slot stays", x.restore(0), 0);
        Check.due("owners as saved", x.count(1), 1);
        x.issue();
        Check.due("the pad is emptied", x.wipe(), 0);
        x.undo();
        Check.due("undo() does not bring it back", x.count(7), 0);
    }

    private static void errorsAndQuestionsAreNotRecorded() {
        BinderParcels x = new BinderParcels();
        x.own();
        Check.issue(x, "+1.0");
        x.done(0, 1, true);
        x.lose(1, 0);
        x.again(0, 0);
        x.hand(0, 10, 0, false);
        x.doAll(1);
        x.issue();
        x.restore(0);
        x.restore(2);
        x.save(0);
        x.put('+');
        x.wipe();
        x.fault();
        x.ifDone(0, 0);
        x.ifAllDone(0);
        x.mending(0);
        x.rightFrom(0);
        Check.due("count(8)", x.count(8), 2);
        Check.due("undo() of issue", x.undo(), 1);
        Check.due("count(0)", x.count(0), 0);
        Check.due("undo() is not undone by undo()", x.undo(), 0);
        Check.due("count(1)", x.count(1), 0);
    }

    private static void nothingToUndo() {
        BinderParcels x = new BinderParcels();
        Check.due("undo() of a new object", x.undo(), Check.NOT_POSSIBLE);
        x.own();
        Check.due("undo()", x.undo(), 0);
        Check.due("undo() again", x.undo(), Check.NOT_POSSIBLE);
        Check.due("count(1)", x.count(1), 0);
    }
}
