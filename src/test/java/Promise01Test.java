/** A new object. */
public final class Promise01Test {
    public static void main(String[] args) {
        isEmpty(new BinderParcels());
        sharesNothing();
        Check.finish();
    }

    private static void isEmpty(BinderParcels x) {
        int[] counts = {0, 0, 0, 0, 0, 0, Check.NONE, 0, 0};
        for (int what = 0; what < counts.length; what++) {
            Check.due("new: count(" + what + ")", x.count(what), counts[what]);
        }
        for (int number = 10; number <= 99; number++) {
            Check.due("new: text(" + number + ")", x.text(number), Check.NONE);
        }
        Check.due("new: fault()", x.fault(), 0);
        Check.due("new: wipe()", x.wipe(), 0);
        Check.due("new: issue()", x.issue(), Check.BAD_TEXT);
        Check.due("new: undo()", x.undo(), Check.NOT_POSSIBLE);
        Check.due("new: restore(0)", x.restore(0), Check.NOT_POSSIBLE);
        Check.due("new: restore(1)", x.restore(1), Check.NOT_POSSIBLE);
        Check.due("new: of(0, 0)", x.of(0, 0), Check.NO_SUCH);
        Check.due("new: parcel(0, 0)", x.parcel(0, 0), Check.NO_SUCH);
    }

    private static void sharesNothing() {
        BinderParcels x = new BinderParcels();
        Check.issue(x, "+1.0");
        x.own();
        x.save(0);
        x.put('+');
        isEmpty(new BinderParcels());
        Check.due("the first object's count(0)", x.count(0), 1);
        Check.due("the first object's count(7)", x.count(7), 1);
    }
}
