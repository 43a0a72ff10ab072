import java.util.List;

/** put. */
public final class Promise18Test {
    public static void main(String[] args) {
        order();
        lengths();
        codes();
        zeroBits();
        isNoChange();
        Check.finish();
    }

    private static void order() {
        BinderParcels x = new BinderParcels();
        Check.due("put of '+1'", x.put('+' << 8 | '1'), 2);
        Check.due("put of '.2'", x.put('.' << 8 | '2'), 4);
        Check.due("fault()", x.fault(), Check.NONE);
        x.issue();
        Check.due("its order", x.parcel(0, 1), 112);
        Check.due("put of 8", x.put(Check.packed("-9.8,+7.")), 8);
        Check.due("put of 1", x.put('6'), 9);
        x.issue();
        Check.due("its first order", x.parcel(1, 1), 98);
        Check.due("its second order", x.parcel(1, 2), 176);
    }

    private static void lengths() {
        for (int size = 1; size <= 8; size++) {
            BinderParcels x = new BinderParcels();
            Check.due("put of " + size, x.put(Check.packed("abcdefgh".substring(0, size))), size);
            Check.due("count(7)", x.count(7), size);
        }
        BinderParcels x = new BinderParcels();
        for (int i = 1; i <= 5; i++) {
            Check.due("put of 8", x.put(Check.packed("abcdefgh")), 8 * i);
        }
        Check.due("put of 6", x.put(Check.packed("abcdef")), 46);
        fails(x, Check.packed("abc"), Check.TOO_MANY);
        fails(x, Check.packed("abcdefgh"), Check.TOO_MANY);
        fails(x, Check.packed("ab c"), Check.BAD_VALUE);
        Check.due("put of 2, just enough", x.put(Check.packed("ab")), 48);
        fails(x, Check.packed("a"), Check.TOO_MANY);
        fails(x, 0, Check.BAD_VALUE);
        fails(x, 32, Check.BAD_VALUE);
    }

    private static void codes() {
        BinderParcels x = new BinderParcels();
        Check.due("put(33)", x.put(33), 1);
        Check.due("put(126)", x.put(126), 2);
        for (int code = 0; code <= 255; code++) {
            if (code < 33 || code > 126) {
                fails(x, code, Check.BAD_VALUE);
                fails(x, 'a' << 8 | code, Check.BAD_VALUE);
                fails(x, 'a' << 16 | code << 8 | 'b', Check.BAD_VALUE);
            }
            if (code > 126) {
                fails(x, (long) code << 56 | Check.packed("abcdefg"), Check.BAD_VALUE);
            }
        }
        fails(x, -1, Check.BAD_VALUE);
        fails(x, Long.MIN_VALUE, Check.BAD_VALUE);
        fails(x, Long.MAX_VALUE, Check.BAD_VALUE);
    }

    private static void zeroBits() {
        BinderParcels x = new BinderParcels();
        fails(x, 0, Check.BAD_VALUE);
        fails(x, 'a' << 8, Check.BAD_VALUE);
        fails(x, 'a' << 16 | 'b', Check.BAD_VALUE);
        fails(x, (long) 'a' << 56 | 'b', Check.BAD_VALUE);
        fails(x, 1L << 63 | Check.packed("abcdef"), Check.BAD_VALUE);
        fails(x, 1L << 56 | Check.packed("abcdef"), Check.BAD_VALUE);
    }

    private static void fails(BinderParcels x, long characters, int error) {
        List<Integer> before = Check.wholePicture(x);
        Check.due("put(" + characters + ")", x.put(characters), error);
        Check.same("the failed put(" + characters + ")", Check.wholePicture(x), before);
    }

    private static void isNoChange() {
        BinderParcels x = new BinderParcels();
        x.own();
        Check.type(x, "+1.0");
        Check.due("count(8)", x.count(8), 1);
        Check.due("undo()", x.undo(), 0);
        Check.due("the pad stays", x.count(7), 4);
    }
}
