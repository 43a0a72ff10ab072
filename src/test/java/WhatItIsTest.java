/** How long an object is used. */
public final class WhatItIsTest {
    static Section section() {
        return new Section("What it is")
            .holds("An object is used for at most 512 calls after it has been made;", WhatItIsTest::all512CallsAnswer);
    }

    public static void main(String[] args) {
        section().run();
    }

    private static void all512CallsAnswer() {
        Subject x = Make.waiting("+1.0");
        while (x.calls() < 506) {
            Check.due("lose(0, 0)", x.lose(0, 0), 0);
            Check.due("again(0, 0)", x.again(0, 0), 1);
        }
        for (int leaves = 1; x.calls() < 511; leaves++) {
            Check.due("hand(0, 99, 0, true)", x.hand(0, 99, 0, true), leaves);
        }
        Check.due("the 512th call, undo()", x.undo(), 5);
    }
}
