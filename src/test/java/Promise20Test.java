/** fault. */
public final class Promise20Test {
    static Section section() {
        return new Section("Promise 20: fault")
            .holds("Returns the fault of the pad,",
                Promise20Test::firstAndLast, Promise20Test::endsTooEarly, Promise20Test::fullPad,
                Promise20Test::changesNothing)
            .holds("NONE if there is none.", Promise20Test::oneTo8Orders, Promise20Test::numberTwice);
    }

    public static void main(String[] args) {
        section().run();
    }

    private static void due(String text, int want) {
        Subject x = new Subject();
        Make.type(x, text);
        Check.due("fault() of '" + text + "'", x.fault(), want);
    }

    private static void firstAndLast() {
        due("x", 0);
        due("x1.0,+2.0", 0);
        due("+1.0,+2.x", 8);
        due(Make.row('+', 10, 8).substring(0, 38) + "x", 38);
        due(Make.row('+', 10, 8) + ",", 39);
    }

    private static void endsTooEarly() {
        due("", 0);
        due("+", 1);
        due("+1", 2);
        due("+1.", 3);
        due("+1.0,", 5);
        due(Make.row('+', 10, 8).substring(0, 38), 38);
    }

    private static void fullPad() {
        due("x".repeat(48), 0);
        due(Make.row('+', 10, 9) + ",+2.", 39);
        due(Make.row('+', 10, 7) + "x".repeat(14), 34);
    }

    private static void changesNothing() {
        Check.changesNothing(Make.rich(), "fault()", Subject::fault);
        Subject x = new Subject();
        Make.type(x, "+1.0");
        x.fault();
        Check.due("put() behind fault()", x.put(','), 5);
        Check.due("fault()", x.fault(), 5);
        Check.due("count(8)", x.count(8), 0);
    }

    private static void oneTo8Orders() {
        for (int orders = 1; orders <= 8; orders++) {
            due(Make.row('+', 95 - orders, orders), Check.NONE);
            due(Make.row('-', 10, orders), Check.NONE);
        }
        due("+1.0,+0.9", 6);
    }

    private static void numberTwice() {
        due("+1.0,+1.0", Check.NONE);
        due("-1.0,+1.0", Check.NONE);
    }
}
