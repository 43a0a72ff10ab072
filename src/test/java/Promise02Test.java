/** issue. */
public final class Promise02Test {
    static Section section() {
        return new Section("Promise 2: issue")
            .holds("Issues the parcel of the pad, and empties the pad:",
                Promise02Test::textOfToday, Promise02Test::oneOrder, Promise02Test::eightOrders,
                Promise02Test::padIsEmptied)
            .holds("it waits for all owners.",
                Promise02Test::waitsForAll, Promise02Test::waitsForNobody, Promise02Test::bindersStay)
            .holds("This is a change.", Promise02Test::isAChange)
            .holds("Returns its number;", Promise02Test::numbers0To15, Promise02Test::numberThatWasFreed)
            .holds("BAD_TEXT if the pad has a fault;",
                Promise02Test::emptyPad, Promise02Test::endsTooEarly, Promise02Test::faultyCharacter,
                Promise02Test::ninthOrder, Promise02Test::faultThatIsMended)
            .holds("BAD_VALUE if a number comes twice;",
                Promise02Test::twicePutIn, Promise02Test::putInAndTakenOut, Promise02Test::firstAndLast)
            .holds("TOO_MANY if there are 16 parcels.",
                Promise02Test::seventeenth, Promise02Test::roomBehindUndo, Promise02Test::sixteenRestored);
    }

    public static void main(String[] args) {
        section().run();
    }

    private static void textOfToday() {
        Subject x = Make.parcels("+1.0,+5.5,+9.9", "-5.5,+1.0", "-7.7");
        Check.due("text(10), put in again", x.text(10), 1);
        Check.due("text(55), taken out", x.text(55), Check.NONE);
        Check.due("text(99), not in the later ones", x.text(99), 0);
        Check.due("text(77), never there", x.text(77), Check.NONE);
        Check.due("count(2)", x.count(2), 2);
        Make.issueAll(x, "+5.5");
        Check.due("text(55), put in behind that", x.text(55), 3);
    }

    private static void oneOrder() {
        Subject x = Make.parcels("+1.0", "-9.9");
        Check.due("parcel(0, 0)", x.parcel(0, 0), 1);
        Check.due("parcel(0, 1)", x.parcel(0, 1), 110);
        Check.due("parcel(0, 2)", x.parcel(0, 2), Check.NONE);
        Check.due("parcel(1, 0)", x.parcel(1, 0), 1);
        Check.due("parcel(1, 1)", x.parcel(1, 1), 99);
    }

    private static void eightOrders() {
        Subject x = Make.parcels("-9.9,+1.0,+5.5,-4.4,+1.9,-9.1,+2.3,-3.2");
        int[] orders = {99, 110, 155, 44, 119, 91, 123, 32};
        Check.due("parcel(0, 0)", x.parcel(0, 0), 8);
        for (int i = 0; i < 8; i++) {
            Check.due("parcel(0, " + (i + 1) + ")", x.parcel(0, i + 1), orders[i]);
        }
        Check.due("count(2)", x.count(2), 4);
    }

    private static void padIsEmptied() {
        Subject x = new Subject();
        Make.type(x, Make.row('+', 10, 8));
        Check.due("count(7)", x.count(7), 39);
        x.issue();
        Check.due("count(7) behind issue()", x.count(7), 0);
        Check.due("fault() behind issue()", x.fault(), 0);
        Check.due("issue() of the emptied pad", x.issue(), Check.BAD_TEXT);
        Check.due("put() on the emptied pad", x.put('+'), 1);
    }

    private static void waitsForAll() {
        Subject x = new Subject();
        for (int owner = 0; owner < 8; owner++) {
            x.own();
            Make.issueAll(x, "+1.0");
            Check.due("parcel(" + owner + ", 9)", x.parcel(owner, 9), (2 << owner) - 1);
        }
        for (int owner = 0; owner < 8; owner++) {
            Check.due("of(" + owner + ", 1)", x.of(owner, 1), 256 - (1 << owner));
        }
    }

    private static void waitsForNobody() {
        Subject x = Make.parcels("+1.0");
        Check.due("parcel(0, 9), without owners", x.parcel(0, 9), 0);
        x.own();
        Check.due("parcel(0, 9), an owner came", x.parcel(0, 9), 0);
    }

    private static void bindersStay() {
        Subject x = Make.waiting("+1.0");
        Check.due("of(0, 0)", x.of(0, 0), 0);
        x.doAll(0);
        Make.issueAll(x, "-1.0");
        Check.due("of(0, 0)", x.of(0, 0), 1);
    }

    private static void isAChange() {
        Subject x = Make.parcels("+1.0");
        x.own();
        Make.type(x, "+2.0,-1.0");
        Check.isChange(x, "issue()", Subject::issue);
        x.issue();
        x.undo();
        Check.due("count(7), undone: the pad stays empty", x.count(7), 0);
        Check.isChange(x, "a first order that takes nothing out", y -> Make.issue(y, "-9.9"));
    }

    private static void numbers0To15() {
        Subject x = new Subject();
        for (int parcel = 0; parcel < 16; parcel++) {
            Check.due("issue()", Make.issue(x, "+1.0"), parcel);
            Check.due("count(0)", x.count(0), parcel + 1);
        }
    }

    private static void numberThatWasFreed() {
        Subject x = Make.waiting("+1.0", "-2.0,+3.0,+4.0");
        x.lose(0, 1);
        x.undo();
        x.undo();
        Check.due("issue() behind undo()", Make.issue(x, "+5.0"), 1);
        Check.due("parcel(1, 0)", x.parcel(1, 0), 1);
        Check.due("parcel(1, 1)", x.parcel(1, 1), 150);
        Check.due("parcel(1, 2)", x.parcel(1, 2), Check.NONE);
        Check.due("parcel(1, 9)", x.parcel(1, 9), 1);
        Check.due("parcel(1, 10)", x.parcel(1, 10), 0);
        Check.due("text(30)", x.text(30), Check.NONE);
    }

    private static void fails(String pad, int error) {
        Subject x = Make.waiting("+1.0", "-2.0");
        Make.type(x, pad);
        Check.fails(x, "issue() of '" + pad + "'", Subject::issue, error);
    }

    private static void emptyPad() {
        fails("", Check.BAD_TEXT);
    }

    private static void endsTooEarly() {
        fails("+", Check.BAD_TEXT);
        fails("+3.", Check.BAD_TEXT);
        fails("+3.0,", Check.BAD_TEXT);
        fails("+3.0,-3.", Check.BAD_TEXT);
        fails(Make.row('+', 10, 8).substring(0, 38), Check.BAD_TEXT);
    }

    private static void faultyCharacter() {
        fails("*1.0", Check.BAD_TEXT);
        fails("+0.9", Check.BAD_TEXT);
        fails("+1.0,+1,0", Check.BAD_TEXT);
        fails(Make.row('+', 10, 7) + ",+1.x", Check.BAD_TEXT);
        fails("x".repeat(48), Check.BAD_TEXT);
    }

    private static void ninthOrder() {
        fails(Make.row('+', 10, 8) + ",", Check.BAD_TEXT);
        fails(Make.row('+', 10, 9), Check.BAD_TEXT);
    }

    private static void faultThatIsMended() {
        Subject x = new Subject();
        Make.type(x, "+1.0,+2.");
        Check.due("issue()", x.issue(), Check.BAD_TEXT);
        x.put('5');
        Check.due("issue(), mended", x.issue(), 0);
        Check.due("parcel(0, 2)", x.parcel(0, 2), 125);
    }

    private static void twicePutIn() {
        fails("+3.0,+3.0", Check.BAD_VALUE);
        fails("-3.0,-3.0", Check.BAD_VALUE);
    }

    private static void putInAndTakenOut() {
        fails("+3.0,-3.0", Check.BAD_VALUE);
        fails("-3.0,+3.0", Check.BAD_VALUE);
    }

    private static void firstAndLast() {
        fails("+3.0,+3.1,+3.2,+3.3,+3.4,+3.5,+3.6,+3.0", Check.BAD_VALUE);
        fails("+3.0,+3.1,+3.2,+3.3,+3.4,+3.5,+3.6,+3.6", Check.BAD_VALUE);
    }

    private static Subject sixteen() {
        Subject x = Make.owners(1);
        for (int parcel = 0; parcel < 16; parcel++) {
            Make.issueAll(x, "+1.0");
        }
        return x;
    }

    private static void seventeenth() {
        Subject x = sixteen();
        Make.type(x, "+2.0");
        Check.fails(x, "the 17th issue()", Subject::issue, Check.TOO_MANY);
        Check.due("count(7), the pad stays", x.count(7), 4);
    }

    private static void roomBehindUndo() {
        Subject x = sixteen();
        x.undo();
        Make.type(x, "+2.0");
        Check.due("issue() behind undo()", x.issue(), 15);
        Check.due("text(20)", x.text(20), 15);
        Make.type(x, "+3.0");
        Check.due("issue() of one more", x.issue(), Check.TOO_MANY);
    }

    private static void sixteenRestored() {
        Subject x = sixteen();
        x.save(0);
        x.undo();
        x.restore(0);
        Check.due("issue() behind restore(0)", Make.issue(x, "+2.0"), Check.TOO_MANY);
    }
}
