/** parcel. */
public final class Promise09Test {
    public static void main(String[] args) {
        BinderParcels x = new BinderParcels();
        x.own();
        x.own();
        x.own();
        Check.issue(x, "+1.0");
        Check.issue(x, "-9.9,+9.8,-1.0,+5.5,+5.6,-5.7,+2.3,-3.2");
        orders(x, 0, 110);
        orders(x, 1, 99, 198, 10, 155, 156, 57, 123, 32);

        Check.due("owners for whom 0 waits", x.parcel(0, 9), 7);
        Check.due("owners who lost 0", x.parcel(0, 10), 0);
        x.lose(0, 0);
        x.done(1, 0, true);
        x.lose(2, 1);
        Check.due("owners for whom 0 waits, one lost, one done", x.parcel(0, 9), 4);
        Check.due("owners who lost 0", x.parcel(0, 10), 1);
        Check.due("owners for whom 1 waits", x.parcel(1, 9), 3);
        Check.due("owners who lost 1", x.parcel(1, 10), 4);
        x.again(0, 0);
        Check.due("owners for whom 0 waits, sent again", x.parcel(0, 9), 5);
        Check.due("owners who lost 0, sent again", x.parcel(0, 10), 0);
        errors(x);
        sixteenParcels();
        Check.finish();
    }

    private static void orders(BinderParcels x, int parcel, int... orders) {
        Check.due("parcel(" + parcel + ", 0)", x.parcel(parcel, 0), orders.length);
        for (int what = 1; what <= 8; what++) {
            int want = what <= orders.length ? orders[what - 1] : Check.NONE;
            Check.due("parcel(" + parcel + ", " + what + ")", x.parcel(parcel, what), want);
        }
    }

    private static void errors(BinderParcels x) {
        Check.due("parcel(-1, 0)", x.parcel(-1, 0), Check.NO_SUCH);
        Check.due("parcel(2, 0)", x.parcel(2, 0), Check.NO_SUCH);
        Check.due("parcel(16, 11)", x.parcel(16, 11), Check.NO_SUCH);
        Check.due("parcel(MIN, -1)", x.parcel(Integer.MIN_VALUE, -1), Check.NO_SUCH);
        Check.due("parcel(0, -1)", x.parcel(0, -1), Check.BAD_VALUE);
        Check.due("parcel(0, 11)", x.parcel(0, 11), Check.BAD_VALUE);
        Check.due("parcel(0, MAX)", x.parcel(0, Integer.MAX_VALUE), Check.BAD_VALUE);
        Check.due("parcel(0, MIN)", x.parcel(0, Integer.MIN_VALUE), Check.BAD_VALUE);
    }

    private static void sixteenParcels() {
        BinderParcels x = new BinderParcels();
        for (int owner = 0; owner < 8; owner++) {
            x.own();
        }
        for (int parcel = 0; parcel < 16; parcel++) {
            Check.issue(x, Check.row('-', 10 + parcel, 8));
        }
        x.lose(7, 15);
        Check.due("parcel(15, 8)", x.parcel(15, 8), 32);
        Check.due("parcel(15, 9)", x.parcel(15, 9), 127);
        Check.due("parcel(15, 10)", x.parcel(15, 10), 128);
        Check.due("parcel(14, 9)", x.parcel(14, 9), 255);
        Check.due("of(0, 1)", x.of(0, 1), 65535);
        Check.due("of(7, 1)", x.of(7, 1), 32767);
    }
}
