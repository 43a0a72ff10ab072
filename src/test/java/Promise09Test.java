/** parcel. */
public final class Promise09Test {
    static Section section() {
        return new Section("Promise 9: parcel")
            .ordinary("Returns something about a parcel.", "- `what`:")
            .holds("0 how many orders it has,", Promise09Test::oneTo8Orders)
            .holds("1 to 8: the first, second .. order: its number, and 100 if it is put in",
                Promise09Test::orders, Promise09Test::lowestAndHighestNumber)
            .holds("(NONE behind the last one),", Promise09Test::noneBehindTheLast)
            .holds("9 the owners for whom it waits, as a set,",
                Promise09Test::ownersForWhomItWaits, Promise09Test::noOwners)
            .holds("10 the owners who lost it, as a set", Promise09Test::ownersWhoLostIt, Promise09Test::noOwners)
            .holds("(lost, and not sent again since)", Promise09Test::sentAgainSince)
            .holds("Returns the number;", Promise09Test::orders)
            .holds("NO_SUCH if there is no such parcel;", Promise09Test::noSuch)
            .holds("BAD_VALUE if what is out of range.", Promise09Test::badWhat);
    }

    public static void main(String[] args) {
        section().run();
    }

    private static void orders(Subject x, int parcel, int... orders) {
        Check.due("parcel(" + parcel + ", 0)", x.parcel(parcel, 0), orders.length);
        for (int what = 1; what <= 8; what++) {
            int want = what <= orders.length ? orders[what - 1] : Check.NONE;
            Check.due("parcel(" + parcel + ", " + what + ")", x.parcel(parcel, what), want);
        }
    }

    private static void oneTo8Orders() {
        Subject x = new Subject();
        for (int orders = 1; orders <= 8; orders++) {
            Make.issueAll(x, Make.row('+', 10, orders));
            Check.due("parcel(" + (orders - 1) + ", 0)", x.parcel(orders - 1, 0), orders);
        }
    }

    private static void orders() {
        Subject x = Make.parcels("+1.0", "-9.8,+9.7,-1.1,+5.5,+5.6,-5.7,+2.3,-3.2", "-3.2,+2.3");
        orders(x, 0, 110);
        orders(x, 1, 98, 197, 11, 155, 156, 57, 123, 32);
        orders(x, 2, 32, 123);
    }

    private static void lowestAndHighestNumber() {
        orders(Make.parcels("+1.0,-9.9"), 0, 110, 99);
        orders(Make.parcels("-1.0,+9.9"), 0, 10, 199);
    }

    private static void noneBehindTheLast() {
        Subject x = new Subject();
        for (int orders = 8; orders >= 1; orders--) {
            Make.issueAll(x, Make.row('-', 10, orders));
            int parcel = 8 - orders;
            Check.due("parcel(" + parcel + ", " + orders + ")", x.parcel(parcel, orders), 9 + orders);
            for (int what = orders + 1; what <= 8; what++) {
                Check.due("parcel(" + parcel + ", " + what + ")", x.parcel(parcel, what), Check.NONE);
            }
        }
    }

    private static void ownersForWhomItWaits() {
        Subject x = Make.issueAll(Make.owners(8), "+1.0", "+2.0");
        Check.due("parcel(0, 9), all", x.parcel(0, 9), 255);
        x.done(0, 0, true);
        Check.due("parcel(0, 9), one did it", x.parcel(0, 9), 254);
        x.done(1, 0, false);
        Check.due("parcel(0, 9), one did it carelessly", x.parcel(0, 9), 252);
        x.lose(7, 0);
        Check.due("parcel(0, 9), one lost it", x.parcel(0, 9), 124);
        x.doAll(2);
        Check.due("parcel(0, 9), one did all", x.parcel(0, 9), 120);
        Check.due("parcel(1, 9), the other one", x.parcel(1, 9), 251);
        x.again(0, 0);
        Check.due("parcel(0, 9), one has it again", x.parcel(0, 9), 121);
    }

    private static void noOwners() {
        Subject x = Make.parcels("+1.0");
        Check.due("parcel(0, 9)", x.parcel(0, 9), 0);
        Check.due("parcel(0, 10)", x.parcel(0, 10), 0);
        x.own();
        Check.due("parcel(0, 9), older than the owner", x.parcel(0, 9), 0);
        Check.due("parcel(0, 10)", x.parcel(0, 10), 0);
    }

    private static void ownersWhoLostIt() {
        Subject x = Make.issueAll(Make.owners(8), "+1.0", "+2.0");
        Check.due("parcel(0, 10), nobody", x.parcel(0, 10), 0);
        for (int owner = 0; owner < 8; owner++) {
            x.lose(owner, 0);
            Check.due("parcel(0, 10)", x.parcel(0, 10), (2 << owner) - 1);
        }
        Check.due("parcel(1, 10), the other one", x.parcel(1, 10), 0);
    }

    private static void sentAgainSince() {
        Subject x = Make.issueAll(Make.owners(2), "+1.0");
        x.lose(0, 0);
        x.lose(1, 0);
        x.again(1, 0);
        Check.due("parcel(0, 10), sent again", x.parcel(0, 10), 1);
        x.done(1, 0, true);
        Check.due("parcel(0, 10), sent again and done", x.parcel(0, 10), 1);
        x.again(1, 0);
        x.lose(1, 0);
        Check.due("parcel(0, 10), lost again", x.parcel(0, 10), 3);
    }

    private static void noSuch() {
        Subject x = Make.waiting("+1.0", "+2.0");
        for (int none : new int[] {-1, 2, 16, 32, Integer.MIN_VALUE, Integer.MAX_VALUE}) {
            for (int what : new int[] {-1, 0, 1, 8, 9, 10, 11}) {
                Check.due("parcel(" + none + ", " + what + ")", x.parcel(none, what), Check.NO_SUCH);
            }
        }
        Check.due("parcel(0, 0) of a new object", new Subject().parcel(0, 0), Check.NO_SUCH);
    }

    private static void badWhat() {
        Subject x = Make.waiting(Make.row('+', 10, 8));
        for (int what : new int[] {-1, 11, 12, Integer.MIN_VALUE, Integer.MAX_VALUE}) {
            Check.due("parcel(0, " + what + ")", x.parcel(0, what), Check.BAD_VALUE);
        }
    }
}
