/** The pad, the text of a parcel, and its fault. */
public final class TermsTextsTest {
    private static final String EIGHT = "+1.0,-2.1,+3.2,-4.3,+5.4,-6.5,+7.6,-8.7";

    static Section section() {
        return new Section("Terms")
            .holds("The pad is a text of at most 48 characters, a parcel: order { \",\" order }, 1 to 8 orders;",
                TermsTextsTest::padHas48Characters, TermsTextsTest::oneTo8Orders)
            .holds("order = ( \"+\" | \"-\" ) digit \".\" digit; \"+\": it is put in, \"-\": taken out;",
                TermsTextsTest::signs, TermsTextsTest::everyCharacterAtEveryPlace)
            .holds("the first digit is 1 to 9.", TermsTextsTest::firstDigit, TermsTextsTest::secondDigit)
            .holds("The fault is the index of the first character that cannot stand at its place when the text is "
                + "read from left to right",
                TermsTextsTest::firstOfSeveralFaults, TermsTextsTest::faultAtEachPlace)
            .holds("(also a \",\" behind the 8th order;", TermsTextsTest::behindThe8thOrder)
            .holds("whether a number comes twice does not matter);", TermsTextsTest::numberTwiceIsNoFault)
            .holds("if there is none and the text ends too early (also if it is empty), it is the length of the text.",
                TermsTextsTest::endsTooEarly, TermsTextsTest::emptyText);
    }

    public static void main(String[] args) {
        section().run();
    }

    private static void due(String text, int want) {
        Subject x = new Subject();
        Make.type(x, text);
        Check.due("fault() of '" + text + "'", x.fault(), want);
    }

    private static void padHas48Characters() {
        Subject x = new Subject();
        for (int length = 1; length <= 48; length++) {
            Check.due("put('x')", x.put('x'), length);
            Check.due("count(7)", x.count(7), length);
        }
        Check.due("put of the 49th", x.put('x'), Check.TOO_MANY);
        Check.due("count(7)", x.count(7), 48);
    }

    private static void oneTo8Orders() {
        for (int orders = 1; orders <= 8; orders++) {
            due(EIGHT.substring(0, 5 * orders - 1), Check.NONE);
        }
    }

    private static void signs() {
        Subject x = Make.parcels("+5.5,-5.6", "-5.5,+5.6");
        Check.due("parcel(0, 1)", x.parcel(0, 1), 155);
        Check.due("parcel(0, 2)", x.parcel(0, 2), 56);
        Check.due("parcel(1, 1)", x.parcel(1, 1), 55);
        Check.due("parcel(1, 2)", x.parcel(1, 2), 156);
        due("5.5", 0);
        due("*5.5", 0);
        due("++5.5", 1);
        due("+-5.5", 1);
        due("+5,5", 2);
        due("+5.5-5.6", 4);
        due("+5.5;-5.6", 4);
        due("+5.5,5.6", 5);
    }

    private static void everyCharacterAtEveryPlace() {
        String[] fitting = {"+-", "123456789", ".", "0123456789", ","};
        for (int place = 0; place < 39; place++) {
            for (char character = 33; character <= 126; character++) {
                boolean fits = fitting[place % 5].indexOf(character) >= 0;
                int end = place % 5 == 3 ? Check.NONE : place + 1;
                due(EIGHT.substring(0, place) + character, fits ? end : place);
            }
        }
    }

    private static void firstDigit() {
        for (int order = 0; order < 8; order++) {
            String before = EIGHT.substring(0, 5 * order);
            due(before + "+0.1", 5 * order + 1);
            due(before + "-1.0", Check.NONE);
            due(before + "+9.0", Check.NONE);
            due(before + "+10.0", 5 * order + 2);
        }
    }

    private static void secondDigit() {
        for (char digit = '0'; digit <= '9'; digit++) {
            due("+1." + digit, Check.NONE);
            due("+1.0,-9." + digit, Check.NONE);
        }
        due("+1./", 3);
        due("+1.:", 3);
        due("+1.10", 4);
    }

    private static void firstOfSeveralFaults() {
        due("x", 0);
        due("xyz", 0);
        due("+x.y", 1);
        due("+1.x,-y.0,z", 3);
        due("+1.0,+1.0,*2.0,*3.0", 10);
        due("x".repeat(48), 0);
        due("+0" + "x".repeat(46), 1);
    }

    private static void faultAtEachPlace() {
        for (int place = 0; place < 39; place++) {
            due(EIGHT.substring(0, place) + "x" + EIGHT.substring(place + 1), place);
            due(EIGHT.substring(0, place) + "x", place);
        }
    }

    private static void behindThe8thOrder() {
        due(EIGHT + ",", 39);
        due(EIGHT + ",+", 39);
        due(EIGHT + ",+9.8", 39);
        due(EIGHT + ",+9.8,-9", 39);
        due(EIGHT + "+", 39);
        due(EIGHT + "0", 39);
        due(EIGHT + ",,,,,,,,,", 39);
        due(EIGHT.substring(0, 38) + ",,", 38);
    }

    private static void numberTwiceIsNoFault() {
        due("+1.0,+1.0", Check.NONE);
        due("+1.0,-1.0", Check.NONE);
        due("+9.9,+9.9,+9.9,+9.9,+9.9,+9.9,+9.9,+9.9", Check.NONE);
        due("+1.0,+1.0,", 10);
        due("+1.0,+1.0x", 9);
    }

    private static void endsTooEarly() {
        for (int length = 0; length < 39; length++) {
            due(EIGHT.substring(0, length), length % 5 == 4 ? Check.NONE : length);
        }
    }

    private static void emptyText() {
        Subject x = new Subject();
        Check.due("fault() of a new pad", x.fault(), 0);
        Make.type(x, EIGHT);
        x.wipe();
        Check.due("fault() of a wiped pad", x.fault(), 0);
        Make.issueAll(x, "+1.0");
        Check.due("fault() of an issued pad", x.fault(), 0);
    }
}
