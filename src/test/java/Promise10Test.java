/** text. */
public final class Promise10Test {
    static Section section() {
        return new Section("Promise 10: text")
            .holds("Returns the issue of a number in the text.", Promise10Test::issue)
            .holds("- `number`: 10 to 99", Promise10Test::lowestAndHighestNumber)
            .holds("Returns the issue;", Promise10Test::lowestAndHighestIssue)
            .holds("BAD_VALUE if number is out of range;", Promise10Test::badNumber)
            .holds("NONE if the text does not have it.",
                Promise10Test::neverThere, Promise10Test::takenOut, Promise10Test::noRoom);
    }

    public static void main(String[] args) {
        section().run();
    }

    private static void issue() {
        Subject x = Make.parcels("+1.0,+5.5", "+5.5");
        x.own();
        x.hand(0, 10, 1, true);
        Check.due("text(10)", x.text(10), 0);
        Check.due("text(55), put in again", x.text(55), 1);
    }

    private static void lowestAndHighestNumber() {
        Subject x = Make.parcels("-2.0", "+1.0,+9.9");
        Check.due("text(10)", x.text(10), 1);
        Check.due("text(99)", x.text(99), 1);
    }

    private static void lowestAndHighestIssue() {
        Subject x = Make.parcels("+1.0");
        for (int parcel = 1; parcel < 16; parcel++) {
            Make.issueAll(x, "+9.9");
            Check.due("text(99)", x.text(99), parcel);
        }
        Check.due("text(10)", x.text(10), 0);
    }

    private static void badNumber() {
        Subject x = Make.parcels("+1.0,+9.9");
        for (int number : new int[] {9, 100, 0, -10, 109, Integer.MIN_VALUE, Integer.MAX_VALUE}) {
            Check.due("text(" + number + ")", x.text(number), Check.BAD_VALUE);
        }
    }

    private static void neverThere() {
        Subject x = Make.parcels("+5.5", "-1.0");
        Check.due("text(54)", x.text(54), Check.NONE);
        Check.due("text(56)", x.text(56), Check.NONE);
        Check.due("text(10), taken out of nothing", x.text(10), Check.NONE);
        x.own();
        x.hand(0, 99, 0, true);
        Check.due("text(99), only in a binder", x.text(99), Check.NONE);
    }

    private static void takenOut() {
        Subject x = Make.parcels("+5.5", "-5.5");
        Check.due("text(55)", x.text(55), Check.NONE);
        Make.issueAll(x, "+5.5");
        Check.due("text(55), put in again", x.text(55), 2);
    }

    private static void noRoom() {
        Subject x = Make.issueAll(Make.issueSixty(new Subject()), "+9.9");
        Check.due("text(69)", x.text(69), 7);
        Check.due("text(99), the 61st leaf", x.text(99), Check.NONE);
    }
}
