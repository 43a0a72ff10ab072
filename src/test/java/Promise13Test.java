/** count. */
public final class Promise13Test {
    static Section section() {
        return new Section("Promise 13: count")
            .holds("Returns a number.", Promise13Test::ofANewObject)
            .holds("- `what`: 0 parcels, 1 owners,", Promise13Test::parcels0To16, Promise13Test::owners0To8)
            .holds("2 leaves of the text,", Promise13Test::leaves0To60)
            .holds("3 the check number of the text,", Promise13Test::checkNumber)
            .holds("4 owners whose binders are right, as a set,", Promise13Test::rightOwners)
            .holds("5 leaves of the text that are of the issue 0,", Promise13Test::leavesOfIssue0)
            .holds("6 the parcel of which the most leaves are in the text,",
                Promise13Test::mostLeaves, Promise13Test::mostOfTheLastParcel)
            .holds("of several the lowest one", Promise13Test::lowestOfSeveral)
            .holds("(NONE if the text has no leaves),", Promise13Test::noLeaves)
            .holds("7 the length of the pad,", Promise13Test::length0To48)
            .holds("8 how many changes can be undone", Promise13Test::changes0To6)
            .holds("Returns the number; BAD_VALUE if what is out of range.", Promise13Test::badWhat);
    }

    public static void main(String[] args) {
        section().run();
    }

    private static void due(Subject x, int what, int want) {
        Check.due("count(" + what + ")", x.count(what), want);
    }

    private static void ofANewObject() {
        int[] counts = {0, 0, 0, 0, 0, 0, Check.NONE, 0, 0};
        for (int what = 0; what <= 8; what++) {
            due(new Subject(), what, counts[what]);
        }
    }

    private static void parcels0To16() {
        Subject x = new Subject();
        for (int parcels = 1; parcels <= 16; parcels++) {
            Make.issue(x, "+1.0");
            due(x, 0, parcels);
        }
        Make.issue(x, "+1.0");
        due(x, 0, 16);
    }

    private static void owners0To8() {
        Subject x = new Subject();
        for (int owners = 1; owners <= 8; owners++) {
            x.own();
            due(x, 1, owners);
        }
        x.own();
        due(x, 1, 8);
    }

    private static void leaves0To60() {
        Subject x = Make.owners(1);
        for (int parcel = 0; parcel < 7; parcel++) {
            Make.issueAll(x, Make.row('+', 10 + 8 * parcel, 8));
            due(x, 2, 8 * parcel + 8);
        }
        Make.issueAll(x, Make.row('+', 66, 4));
        due(x, 2, 60);
        Make.issueAll(x, "+9.9");
        due(x, 2, 60);
        x.hand(0, 99, 0, true);
        Make.issueAll(x, "-1.0,-1.1");
        due(x, 2, 58);
    }

    private static void checkNumber() {
        Subject x = Make.parcels("+1.0,+2.0");
        due(x, 3, 30);
        Make.issueAll(x, "+2.0,-5.0");
        due(x, 3, 10 + 40);
        Make.issueAll(x, "+9.9,+9.8,+9.7");
        due(x, 3, 50 + (99 + 98 + 97) * 3);
        Make.issueAll(x, "+1.6");
        due(x, 3, 996);
        x.undo();
        Make.issueAll(x, "+1.7");
        due(x, 3, 3);
        Make.issueAll(x, "-9.9,-9.8,-9.7,-1.7");
        due(x, 3, 10 + 40);
        Make.issueAll(x, "-1.0,-2.0");
        due(x, 3, 0);
    }

    private static void rightOwners() {
        Subject x = new Subject();
        due(x, 4, 0);
        for (int owners = 1; owners <= 8; owners++) {
            x.own();
            due(x, 4, (1 << owners) - 1);
        }
        Make.issueAll(x, "+1.0");
        due(x, 4, 0);
        x.done(7, 0, true);
        x.done(3, 0, false);
        due(x, 4, 136);
        x.hand(3, 10, 0, true);
        due(x, 4, 128);
        x.lose(0, 0);
        x.hand(0, 10, 0, true);
        due(x, 4, 129);
        x.hand(0, 11, 0, true);
        x.hand(0, 10, 0, false);
        due(x, 4, 128);
        Make.issueAll(x, "-1.0");
        due(x, 4, 118);
    }

    private static void leavesOfIssue0() {
        Subject x = Make.parcels(Make.row('+', 10, 8));
        due(x, 5, 8);
        Make.issueAll(x, "+1.0,-1.1,+9.9");
        due(x, 5, 6);
        Make.issueAll(x, "-9.9,+1.1");
        due(x, 5, 6);
        Make.issueAll(x, "-1.2,+1.3,-1.4,+1.5,-1.6,-1.7");
        due(x, 5, 0);
        Subject y = Make.parcels("-1.0", "+1.0");
        due(y, 5, 0);
    }

    private static void mostLeaves() {
        Subject x = Make.parcels("+1.0,+2.0,+3.0");
        due(x, 6, 0);
        Make.issueAll(x, "+1.0,+2.0");
        due(x, 6, 1);
        Make.issueAll(x, "+4.0,+5.0,+6.0");
        due(x, 6, 2);
        Make.issueAll(x, "-4.0,-5.0");
        due(x, 6, 1);
    }

    private static void mostOfTheLastParcel() {
        Subject x = new Subject();
        for (int parcel = 0; parcel < 15; parcel++) {
            Make.issueAll(x, Make.row('+', 10 + 4 * parcel, 4));
            due(x, 6, 0);
        }
        Make.issueAll(x, Make.row('+', 10, 8));
        due(x, 6, 15);
    }

    private static void lowestOfSeveral() {
        Subject x = Make.parcels("-1.0", "+1.0,+2.0", "+3.0,+4.0", "+5.0,+6.0");
        due(x, 6, 1);
        Make.issueAll(x, "+1.0");
        due(x, 6, 2);
        Make.issueAll(x, "-3.0,-5.0");
        due(x, 6, 1);
    }

    private static void noLeaves() {
        Subject x = new Subject();
        due(x, 6, Check.NONE);
        Make.issueAll(x, "-1.0");
        due(x, 6, Check.NONE);
        Make.issueAll(x, "+1.0");
        due(x, 6, 1);
        Make.issueAll(x, "-1.0");
        due(x, 6, Check.NONE);
    }

    private static void length0To48() {
        Subject x = new Subject();
        for (int length = 1; length <= 48; length++) {
            x.put('x');
            due(x, 7, length);
        }
        x.put('x');
        due(x, 7, 48);
        x.wipe();
        due(x, 7, 0);
    }

    private static void changes0To6() {
        Subject x = new Subject();
        for (int changes = 1; changes <= 8; changes++) {
            x.own();
            due(x, 8, Math.min(changes, 6));
        }
        x.own();
        due(x, 8, 6);
        for (int changes = 5; changes >= 0; changes--) {
            x.undo();
            due(x, 8, changes);
        }
        x.undo();
        due(x, 8, 0);
    }

    private static void badWhat() {
        Subject x = Make.rich();
        for (int what : new int[] {-1, 9, 10, Integer.MIN_VALUE, Integer.MAX_VALUE}) {
            due(x, what, Check.BAD_VALUE);
            due(new Subject(), what, Check.BAD_VALUE);
        }
    }
}
