import java.util.List;

/** ifDone. */
public final class Promise14Test {
    public static void main(String[] args) {
        BinderParcels x = new BinderParcels();
        Check.issue(x, "+1.0,+2.0,+3.0");
        x.own();
        Check.issue(x, "+2.0,+4.0");
        Check.issue(x, "-3.0,+5.0");
        List<Integer> before = Check.wholePicture(x);
        // wrong are: 2.0 is old, 3.0 is surplus, 4.0 and 5.0 are missing
        Check.due("ifDone(0, 0)", x.ifDone(0, 0), 4);
        Check.due("ifDone(0, 1)", x.ifDone(0, 1), 2);
        Check.due("ifDone(0, 2)", x.ifDone(0, 2), 2);
        Check.same("ifDone", Check.wholePicture(x), before);
        x.done(0, 1, true);
        Check.due("ifDone(0, 0) makes 2.0 old again", x.ifDone(0, 0), 3);
        Check.due("ifDone(0, 1), which does not wait", x.ifDone(0, 1), 2);
        Check.due("ifDone(0, 2), which mends", x.ifDone(0, 2), 0);
        x.hand(0, 20, 0, true);
        x.hand(0, 20, 0, true);
        Check.due("ifDone(0, 2) with surplus leaves", x.ifDone(0, 2), 2);
        Check.due("ifDone(0, 1) takes them out", x.ifDone(0, 1), 2);
        x.lose(0, 2);
        Check.due("ifDone(0, 2), which is lost", x.ifDone(0, 2), 2);
        fullBinder();

        Check.due("ifDone(-1, 0)", x.ifDone(-1, 0), Check.NO_SUCH);
        Check.due("ifDone(1, 0)", x.ifDone(1, 0), Check.NO_SUCH);
        Check.due("ifDone(0, -1)", x.ifDone(0, -1), Check.NO_SUCH);
        Check.due("ifDone(0, 3)", x.ifDone(0, 3), Check.NO_SUCH);
        Check.due("ifDone(0, 33)", x.ifDone(0, 33), Check.NO_SUCH);
        Check.finish();
    }

    private static void fullBinder() {
        BinderParcels x = new BinderParcels();
        Check.issueRows(x, 7);
        x.own();
        for (int i = 0; i < 4; i++) {
            x.hand(0, 99, 0, true);
        }
        Check.issue(x, "+9.0,+9.1");
        Check.due("ifDone(0, 7), full", x.ifDone(0, 7), 6);
        x.hand(0, 99, 0, false);
        Check.due("ifDone(0, 7), with room for one", x.ifDone(0, 7), 4);
    }
}
