import java.util.List;

/** issue. */
public final class Promise02Test {
    public static void main(String[] args) {
        numbersAndText();
        waitsForAllOwners();
        padIsEmptied();
        textHas60LeavesAtMost();
        errors();
        isAChange();
        Check.finish();
    }

    private static void numbersAndText() {
        BinderParcels x = new BinderParcels();
        Check.due("issue() 0", Check.issue(x, "+1.0,+5.5,+9.9"), 0);
        Check.due("issue() 1", Check.issue(x, "-5.5,+1.0"), 1);
        Check.due("issue() 2", Check.issue(x, "-7.7"), 2);
        Check.due("text(10), put in again", x.text(10), 1);
        Check.due("text(55), taken out", x.text(55), Check.NONE);
        Check.due("text(99)", x.text(99), 0);
        Check.due("text(77), never there", x.text(77), Check.NONE);
        Check.due("count(2)", x.count(2), 2);
        Check.due("issue() 3", Check.issue(x, "+5.5"), 3);
        Check.due("text(55), put in behind that", x.text(55), 3);
    }

    private static void waitsForAllOwners() {
        BinderParcels x = new BinderParcels();
        x.own();
        Check.issue(x, "+1.0");
        x.own();
        Check.issue(x, "+2.0");
        Check.due("owners that wait for 0", x.parcel(0, 9), 1);
        Check.due("owners that wait for 1", x.parcel(1, 9), 3);
        Check.due("parcels of owner 0", x.of(0, 1), 3);
        Check.due("parcels of owner 1", x.of(1, 1), 2);
        Check.due("the binder stays as it is", x.of(0, 0), 0);
    }

    private static void padIsEmptied() {
        BinderParcels x = new BinderParcels();
        Check.type(x, "+1.0");
        x.issue();
        Check.due("count(7) behind issue()", x.count(7), 0);
        Check.due("issue() of the emptied pad", x.issue(), Check.BAD_TEXT);
        x.undo();
        Check.due("count(7) behind undo()", x.count(7), 0);
        Check.type(x, "+1.0,+1.0");
        x.issue();
        Check.due("count(7) behind an error", x.count(7), 9);
    }

    private static void textHas60LeavesAtMost() {
        BinderParcels x = new BinderParcels();
        Check.issueRows(x, 7);
        Check.due("issue() of 8 with room for 4", Check.issue(x, Check.row('+', 66, 8)), 7);
        Check.due("count(2)", x.count(2), 60);
        Check.due("the 60th", x.text(69), 7);
        Check.due("the 61st", x.text(70), Check.NONE);
        Check.issue(x, "+1.0,+9.9");
        Check.due("a number that is there", x.text(10), 8);
        Check.due("a number that is not", x.text(99), Check.NONE);
        Check.issue(x, "+9.9,-1.1");
        Check.due("ahead of the room made for it", x.text(99), Check.NONE);
        Check.due("count(2) with room", x.count(2), 59);
        Check.issue(x, "-1.2,+9.9,+9.8,+9.7");
        Check.due("the first with room", x.text(99), 10);
        Check.due("the second with room", x.text(98), 10);
        Check.due("the third, without", x.text(97), Check.NONE);
    }

    private static void errors() {
        BinderParcels x = new BinderParcels();
        x.own();
        fails(x, "", Check.BAD_TEXT);
        fails(x, "+1.0,", Check.BAD_TEXT);
        fails(x, "+0.1", Check.BAD_TEXT);
        fails(x, "+1.0,+1.0", Check.BAD_VALUE);
        fails(x, "+1.0,-1.0", Check.BAD_VALUE);
        fails(x, "+1.0,+1.1,+1.2,+1.3,+1.4,+1.5,+1.6,-1.0", Check.BAD_VALUE);
        fails(x, "+1.0,+1.1,+1.2,+1.3,+1.4,+1.5,+1.6,-1.6", Check.BAD_VALUE);
        fails(x, "+1.0,+1.0,", Check.BAD_TEXT);
        for (int i = 0; i < 16; i++) {
            Check.due("issue() " + i, Check.issue(x, "+2.3"), i);
        }
        fails(x, "+2.3", Check.TOO_MANY);
        fails(x, "+2.3,-2.3", Check.BAD_VALUE);
        fails(x, "+2.3,-2.3;", Check.BAD_TEXT);
        Check.due("text(23)", x.text(23), 15);
    }

    private static void fails(BinderParcels x, String text, int error) {
        x.wipe();
        Check.type(x, text);
        List<Integer> before = Check.wholePicture(x);
        Check.due("issue() of '" + text + "'", x.issue(), error);
        Check.same("the failed issue() of '" + text + "'", Check.wholePicture(x), before);
    }

    private static void isAChange() {
        BinderParcels x = new BinderParcels();
        Check.issue(x, "-1.0");
        Check.due("count(8)", x.count(8), 1);
        Check.issue(x, "+1.0,+2.0");
        Check.due("undo()", x.undo(), 1);
        Check.due("count(0)", x.count(0), 1);
        Check.due("text(10)", x.text(10), Check.NONE);
        Check.due("issue() behind undo()", Check.issue(x, "+3.0"), 1);
        Check.due("its second order", x.parcel(1, 2), Check.NONE);
    }
}
