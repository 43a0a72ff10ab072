import java.util.List;

/** mending. */
public final class Promise16Test {
    public static void main(String[] args) {
        smallSets();
        lowestOfSeveral();
        threeAtMost();
        orderOfIssue();
        fullBinder();
        errors();
        Check.finish();
    }

    private static void smallSets() {
        BinderParcels x = new BinderParcels();
        x.own();
        Check.due("mending(0) without parcels", x.mending(0), 0);
        Check.issue(x, "+1.0");
        Check.due("mending(0), one waits", x.mending(0), 1);
        x.lose(0, 0);
        Check.due("mending(0), one is lost", x.mending(0), 1);
        Check.issue(x, "+2.0");
        List<Integer> before = Check.wholePicture(x);
        Check.due("mending(0), two", x.mending(0), 3);
        Check.same("mending", Check.wholePicture(x), before);
        Check.issue(x, "+3.0");
        Check.due("mending(0), three", x.mending(0), 7);
        x.done(0, 1, true);
        Check.due("mending(0), the first and the third", x.mending(0), 5);
        x.hand(0, 30, 2, true);
        x.hand(0, 10, 0, true);
        Check.due("mending(0), right", x.mending(0), 0);
        x.hand(0, 20, 0, true);
        Check.due("mending(0), a surplus leaf", x.mending(0), 2);
        x.hand(0, 99, 0, true);
        Check.due("mending(0), one that no parcel takes out", x.mending(0), Check.NONE);
    }

    private static void lowestOfSeveral() {
        BinderParcels x = new BinderParcels();
        x.own();
        Check.issue(x, "-5.0");
        Check.issue(x, "-5.0,-6.0");
        Check.issue(x, "-6.0");
        Check.issue(x, "-7.0");
        Check.issue(x, "-5.0,-6.0,-7.0");
        x.hand(0, 50, 0, true);
        Check.due("mending(0) by 0, 1 or 4", x.mending(0), 1);
        x.hand(0, 60, 0, true);
        Check.due("mending(0) by 1 or 4", x.mending(0), 2);
        x.hand(0, 70, 0, true);
        Check.due("mending(0) by one is better than by two", x.mending(0), 16);
        Check.issue(x, "-8.0");
        Check.issue(x, "-5.0,-8.0");
        x.hand(0, 80, 0, true);
        // 16 with 32 or 64; 2 with 8 and 32 are three
        Check.due("mending(0) by two", x.mending(0), 48);
        x.hand(0, 70, 0, false);
        // 1 and 6, 2 and 6, 1 and 5, 4 and 5, 4 and 6
        Check.due("mending(0) by the lowest two", x.mending(0), 34);
    }

    private static void threeAtMost() {
        BinderParcels x = new BinderParcels();
        x.own();
        for (int parcel = 0; parcel < 16; parcel++) {
            Check.issue(x, Check.row('-', 10 + parcel, 1));
        }
        x.hand(0, 23, 0, true);
        x.hand(0, 24, 0, true);
        x.hand(0, 25, 0, true);
        Check.due("mending(0) by the last three", x.mending(0), 7 << 13);
        x.hand(0, 10, 0, true);
        Check.due("mending(0) by four", x.mending(0), Check.NONE);
        x.hand(0, 24, 0, false);
        Check.due("mending(0) by three", x.mending(0), 1 | 1 << 13 | 1 << 15);
    }

    private static void orderOfIssue() {
        BinderParcels x = new BinderParcels();
        x.own();
        Check.issue(x, "+1.0,+2.0");
        Check.issue(x, "-1.0,+3.0");
        // 0 and 1, and not 1 and 0, leave 1.0 out
        Check.due("mending(0)", x.mending(0), 3);
        x.done(0, 1, true);
        x.done(0, 0, true);
        Check.due("mending(0) by 1 again", x.mending(0), 2);
        Check.issue(x, "+2.0");
        Check.due("mending(0) by 1 and 2", x.mending(0), 6);
    }

    /** Done twice, parcel 7 would mend: first it makes room, then 9.0 comes. A set has it once. */
    private static void fullBinder() {
        BinderParcels x = new BinderParcels();
        Check.issueRows(x, 7);
        Check.issue(x, "+9.0,-9.9");
        x.own();
        x.hand(0, 90, 7, false);
        for (int i = 0; i < 3; i++) {
            x.hand(0, 99, 0, true);
        }
        Check.due("mending(0), room for one", x.mending(0), 1 << 7);
        Check.due("a 60th leaf", x.hand(0, 99, 0, true), 60);
        Check.due("mending(0), full", x.mending(0), Check.NONE);
        Check.issue(x, "+9.0");
        Check.due("mending(0), with another 9.0", x.mending(0), 3 << 7);
    }

    private static void errors() {
        BinderParcels x = new BinderParcels();
        Check.due("mending(0)", x.mending(0), Check.NO_SUCH);
        x.own();
        Check.due("mending(-1)", x.mending(-1), Check.NO_SUCH);
        Check.due("mending(1)", x.mending(1), Check.NO_SUCH);
        Check.due("mending(MAX)", x.mending(Integer.MAX_VALUE), Check.NO_SUCH);
    }
}
