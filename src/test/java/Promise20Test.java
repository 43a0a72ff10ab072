/** fault. */
public final class Promise20Test {
    private static final String LONGEST = Check.row('+', 10, 8);

    public static void main(String[] args) {
        wholeTexts();
        textsThatEndTooEarly();
        wrongCharacters();
        everyCharacterAtEveryPlace();
        isNoChange();
        Check.finish();
    }

    private static void due(String text, int want) {
        BinderParcels x = new BinderParcels();
        Check.type(x, text);
        Check.due("fault() of '" + text + "'", x.fault(), want);
        Check.due("fault() again of '" + text + "'", x.fault(), want);
        Check.due("count(7) of '" + text + "'", x.count(7), text.length());
    }

    private static void wholeTexts() {
        due("+1.0", Check.NONE);
        due("-9.9", Check.NONE);
        due("+1.0,-1.0", Check.NONE);
        due("-5.5,-5.5,-5.5", Check.NONE);
        for (int size = 1; size <= 8; size++) {
            due(Check.row('+', 15, size), Check.NONE);
        }
    }

    private static void textsThatEndTooEarly() {
        for (int length = 0; length < LONGEST.length(); length++) {
            due(LONGEST.substring(0, length), length % 5 == 4 ? Check.NONE : length);
        }
    }

    private static void wrongCharacters() {
        due("1.0", 0);
        due("+0.1", 1);
        due("+1,0", 2);
        due("+1.a", 3);
        due("+1.0;", 4);
        due("+1.00", 4);
        due("+1.0,,", 5);
        due("+1.0,1.0", 5);
        due("+1.0,+1.0,+x.y", 11);
        due("x.y+", 0);
        due(LONGEST + ",", 39);
        due(LONGEST + ",+9.9", 39);
        due(LONGEST + "+", 39);
        due(LONGEST + ",+9.9,+99", 39);
        due(LONGEST.substring(0, 38) + "x,", 38);
        due("+" + LONGEST + ",+9.9,+9", 1);
    }

    private static void everyCharacterAtEveryPlace() {
        String[] fitting = {"+-", "123456789", ".", "0123456789", ","};
        for (int place = 0; place < 15; place++) {
            for (char character = 33; character <= 126; character++) {
                String text = LONGEST.substring(0, place) + character;
                boolean fits = fitting[place % 5].indexOf(character) >= 0;
                int want = !fits ? place : place % 5 == 3 ? Check.NONE : place + 1;
                BinderParcels x = new BinderParcels();
                Check.type(x, text);
                Check.due("fault() of '" + text + "'", x.fault(), want);
            }
        }
    }

    private static void isNoChange() {
        BinderParcels x = new BinderParcels();
        Check.type(x, "+1.0");
        x.fault();
        Check.due("count(8)", x.count(8), 0);
        Check.due("issue() behind it", x.issue(), 0);
    }
}
