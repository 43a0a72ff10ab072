/** text. */
public final class Promise10Test {
    public static void main(String[] args) {
        BinderParcels x = new BinderParcels();
        Check.issue(x, "+1.0,+9.9,+5.5");
        Check.issue(x, "+5.5,-9.9");
        Check.due("text(10)", x.text(10), 0);
        Check.due("text(55)", x.text(55), 1);
        Check.due("text(99)", x.text(99), Check.NONE);
        Check.due("text(11)", x.text(11), Check.NONE);
        Check.due("text(54)", x.text(54), Check.NONE);
        Check.due("text(9)", x.text(9), Check.BAD_VALUE);
        Check.due("text(100)", x.text(100), Check.BAD_VALUE);
        Check.due("text(0)", x.text(0), Check.BAD_VALUE);
        Check.due("text(-10)", x.text(-10), Check.BAD_VALUE);
        Check.due("text(MIN)", x.text(Integer.MIN_VALUE), Check.BAD_VALUE);
        Check.due("text(MAX)", x.text(Integer.MAX_VALUE), Check.BAD_VALUE);
        for (int parcel = 2; parcel < 16; parcel++) {
            Check.issue(x, "+9.9");
        }
        Check.due("text(99) of the last parcel", x.text(99), 15);
        Check.finish();
    }
}
