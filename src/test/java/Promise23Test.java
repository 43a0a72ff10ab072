import java.util.List;

/** restore. */
public final class Promise23Test {
    public static void main(String[] args) {
        wholeState();
        ordersOfParcels();
        keepsTheSlot();
        isAChange();
        errors();
        Check.finish();
    }

    private static void wholeState() {
        BinderParcels x = new BinderParcels();
        Check.issue(x, "+1.0,+2.0,-3.0");
        x.own();
        x.own();
        Check.issue(x, "+2.0,+5.0");
        Check.issue(x, "-1.0");
        x.lose(0, 1);
        x.done(1, 1, false);
        x.hand(0, 99, 2, true);
        List<Integer> saved = Check.picture(x);
        List<Integer> text = Check.textOf(x);
        x.save(0);
        Check.issue(x, Check.row('+', 30, 8));
        x.own();
        x.doAll(0);
        x.doAll(1);
        x.again(0, 1);
        Check.type(x, "+1.");
        Check.due("restore(0)", x.restore(0), 3);
        Check.same("restore(0)", Check.picture(x), saved);
        Check.same("the text of restore(0)", Check.textOf(x), text);
        Check.due("the pad stays", x.count(7), 3);
        Check.due("3 is gone", x.parcel(3, 0), Check.NO_SUCH);
        x.wipe();
        Check.due("issue() then", Check.issue(x, "+7.0"), 3);
        Check.due("it waits for both", x.parcel(3, 9), 3);
    }

    private static void ordersOfParcels() {
        BinderParcels x = new BinderParcels();
        x.own();
        Check.issue(x, "+1.0,-2.0,+3.0");
        List<Integer> saved = Check.picture(x);
        x.save(0);
        x.undo();
        Check.issue(x, "-4.0");
        Check.due("restore(0)", x.restore(0), 1);
        Check.same("restore(0)", Check.picture(x), saved);
        Check.due("doAll(0)", x.doAll(0), 1);
        Check.due("the binder is right", x.of(0, 6), 1);
        Check.due("its leaves", x.of(0, 0), 2);
    }

    private static void keepsTheSlot() {
        BinderParcels x = new BinderParcels();
        x.own();
        x.save(0);
        for (int i = 0; i < 3; i++) {
            x.own();
            Check.issue(x, "+1.0");
            x.hand(0, 10, 0, true);
            Check.due("restore(0)", x.restore(0), 0);
            Check.due("owners", x.count(1), 1);
            Check.due("leaves", x.of(0, 0), 0);
        }
    }

    private static void isAChange() {
        BinderParcels x = new BinderParcels();
        x.save(1);
        x.own();
        Check.issue(x, "+1.0");
        List<Integer> before = Check.picture(x);
        Check.due("restore(1)", x.restore(1), 0);
        Check.due("count(8)", x.count(8), 3);
        Check.due("count(1)", x.count(1), 0);
        Check.due("undo()", x.undo(), 2);
        Check.same("undo() of restore(1)", Check.picture(x), before);
        Check.due("undo() of issue()", x.undo(), 1);
        x.restore(1);
        x.restore(1);
        Check.due("restore of the same is a change, too", x.count(8), 3);
    }

    private static void errors() {
        BinderParcels x = new BinderParcels();
        x.own();
        fails(x, 0, Check.NOT_POSSIBLE);
        fails(x, 1, Check.NOT_POSSIBLE);
        fails(x, 2, Check.BAD_VALUE);
        fails(x, -1, Check.BAD_VALUE);
        x.save(1);
        fails(x, 0, Check.NOT_POSSIBLE);
        fails(x, Integer.MAX_VALUE, Check.BAD_VALUE);
        fails(x, Integer.MIN_VALUE, Check.BAD_VALUE);
    }

    private static void fails(BinderParcels x, int slot, int error) {
        List<Integer> before = Check.wholePicture(x);
        Check.due("restore(" + slot + ")", x.restore(slot), error);
        Check.same("the failed restore(" + slot + ")", Check.wholePicture(x), before);
    }
}
