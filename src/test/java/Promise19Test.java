/** wipe. */
public final class Promise19Test {
    public static void main(String[] args) {
        BinderParcels x = new BinderParcels();
        Check.due("wipe() of an empty pad", x.wipe(), 0);
        Check.type(x, "+1.0");
        Check.due("wipe()", x.wipe(), 4);
        Check.due("count(7)", x.count(7), 0);
        Check.due("fault()", x.fault(), 0);
        Check.due("wipe() again", x.wipe(), 0);
        Check.type(x, Check.row('-', 20, 8));
        Check.type(x, "........,");
        Check.due("wipe() of a full pad", x.wipe(), 48);
        Check.type(x, "+2.0");
        Check.due("what comes then stands first", x.issue(), 0);
        Check.due("its order", x.parcel(0, 1), 120);
        Check.due("wipe() is no change", x.count(8), 1);
        Check.finish();
    }
}
