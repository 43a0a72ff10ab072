import java.util.List;

/** ifAllDone. */
public final class Promise15Test {
    public static void main(String[] args) {
        BinderParcels x = new BinderParcels();
        Check.issue(x, "+1.0,+2.0,+3.0");
        x.own();
        Check.due("ifAllDone(0), nothing waits", x.ifAllDone(0), 0);
        Check.issue(x, "+2.0,+4.0");
        Check.issue(x, "-3.0,-4.0,+5.0");
        Check.issue(x, "+2.0");
        List<Integer> before = Check.wholePicture(x);
        Check.due("ifAllDone(0), all wait", x.ifAllDone(0), 0);
        Check.same("ifAllDone", Check.wholePicture(x), before);
        x.lose(0, 2);
        // without 2: 3.0 and 4.0 are surplus, 5.0 is missing
        Check.due("ifAllDone(0), 2 is lost", x.ifAllDone(0), 3);
        x.done(0, 3, true);
        Check.due("ifAllDone(0), 1 comes behind 3", x.ifAllDone(0), 4);
        x.again(0, 2);
        Check.due("ifAllDone(0), 2 is sent again", x.ifAllDone(0), 1);
        x.again(0, 3);
        x.hand(0, 99, 0, true);
        Check.due("ifAllDone(0), with a surplus leaf", x.ifAllDone(0), 1);
        x.doAll(0);
        Check.due("ifAllDone(0), nothing waits", x.ifAllDone(0), 1);
        x.hand(0, 10, 0, false);
        Check.due("ifAllDone(0), with a missing leaf", x.ifAllDone(0), 2);

        Check.due("ifAllDone(-1)", x.ifAllDone(-1), Check.NO_SUCH);
        Check.due("ifAllDone(1)", x.ifAllDone(1), Check.NO_SUCH);
        Check.due("ifAllDone(8)", x.ifAllDone(8), Check.NO_SUCH);
        Check.finish();
    }
}
