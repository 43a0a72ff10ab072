import java.util.List;

/** save. */
public final class Promise22Test {
    public static void main(String[] args) {
        BinderParcels x = new BinderParcels();
        Check.due("save(0) of nothing", x.save(0), 0);
        x.own();
        Check.issue(x, "+1.0");
        Check.issue(x, "+2.0,-1.0");
        x.done(0, 1, false);
        Check.type(x, "+3.");
        List<Integer> before = Check.wholePicture(x);
        Check.due("save(1)", x.save(1), 2);
        Check.same("save(1)", Check.wholePicture(x), before);
        Check.due("save(-1)", x.save(-1), Check.BAD_VALUE);
        Check.due("save(2)", x.save(2), Check.BAD_VALUE);
        Check.due("save(MAX)", x.save(Integer.MAX_VALUE), Check.BAD_VALUE);
        Check.due("save(MIN)", x.save(Integer.MIN_VALUE), Check.BAD_VALUE);
        Check.same("the failed save", Check.wholePicture(x), before);

        List<Integer> saved = Check.picture(x);
        Check.type(x, "0");
        x.issue();
        x.own();
        x.lose(0, 0);
        Check.due("restore(1)", x.restore(1), 2);
        Check.same("restore(1)", Check.picture(x), saved);
        Check.due("restore(0)", x.restore(0), 0);
        Check.due("the other slot had no owners", x.count(1), 0);
        Check.issue(x, "+4.4");
        Check.due("save(1) over what was there", x.save(1), 1);
        Check.issue(x, "+5.5");
        Check.due("restore(1) then", x.restore(1), 1);
        Check.due("its text", x.text(44), 0);
        Check.due("nothing else", x.count(2), 1);
        Check.finish();
    }
}
