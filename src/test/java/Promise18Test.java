/** put. */
public final class Promise18Test {
    static Section section() {
        return new Section("Promise 18: put")
            .holds("Appends characters to the pad.", Promise18Test::appends, Promise18Test::isNoChange)
            .holds("They are given as a number: its lowest 8 bits are the last character, the next 8 bits the one "
                + "before, and so on;", Promise18Test::lastCharacterIsLowest)
            .holds("8 bits that are 0 mean that there are no more characters, and everything above them has to be 0, "
                + "too.", Promise18Test::fewerThan8)
            .holds("- `characters`: 1 to 8 characters", Promise18Test::oneTo8)
            .holds("Returns the length of the pad then;", Promise18Test::length1To48)
            .holds("BAD_VALUE if there is no character,", Promise18Test::noCharacter)
            .holds("a code is not 33 to 126,",
                Promise18Test::lowestAndHighestCode, Promise18Test::everyBadCode, Promise18Test::badCodeAtEachPlace)
            .holds("or a bit above 8 bits that are 0 is not 0;", Promise18Test::bitsAbove0)
            .holds("TOO_MANY if the pad would be longer than 48.", Promise18Test::tooMany, Promise18Test::roomForAll);
    }

    public static void main(String[] args) {
        section().run();
    }

    private static void appends() {
        Subject x = new Subject();
        Check.due("put of 2", x.put(Make.packed("+1")), 2);
        Check.due("put of 2", x.put(Make.packed(".2")), 4);
        Check.due("put of 4", x.put(Make.packed(",-9.")), 8);
        Check.due("put of 1", x.put('8'), 9);
        Check.due("issue()", x.issue(), 0);
        Check.due("parcel(0, 1)", x.parcel(0, 1), 112);
        Check.due("parcel(0, 2)", x.parcel(0, 2), 98);
    }

    private static void isNoChange() {
        Subject x = Make.owners(1);
        Make.type(x, "+1.0");
        Check.due("count(8)", x.count(8), 1);
        Check.due("undo()", x.undo(), 0);
        Check.due("count(7), undo leaves the pad", x.count(7), 4);
    }

    private static void lastCharacterIsLowest() {
        Subject x = new Subject();
        Check.due("put of '+', '1', '.', '2'", x.put('+' << 24 | '1' << 16 | '.' << 8 | '2'), 4);
        Check.due("fault()", x.fault(), Check.NONE);
        x.issue();
        Check.due("parcel(0, 1)", x.parcel(0, 1), 112);
        Check.due("put of '-9.8,+7.'", x.put(0x2d392e382c2b372eL), 8);
        Check.due("put of '6'", x.put(0x36), 9);
        x.issue();
        Check.due("parcel(1, 1)", x.parcel(1, 1), 98);
        Check.due("parcel(1, 2)", x.parcel(1, 2), 176);
    }

    private static void fewerThan8() {
        for (int size = 1; size < 8; size++) {
            Subject x = new Subject();
            long characters = Make.packed("abcdefg".substring(0, size));
            Check.due("put of " + size, x.put(characters), size);
            for (int bit = 8 * size + 8; bit < 64; bit++) {
                Check.due("put of " + size + " and bit " + bit, x.put(characters | 1L << bit), Check.BAD_VALUE);
            }
            Check.due("count(7)", x.count(7), size);
        }
    }

    private static void oneTo8() {
        for (int size = 1; size <= 8; size++) {
            Subject x = new Subject();
            Check.due("put of " + size, x.put(Make.packed("+1.0,-2.".substring(0, size))), size);
            Check.due("count(7)", x.count(7), size);
            Check.due("fault()", x.fault(), size == 4 ? Check.NONE : size);
        }
    }

    private static void length1To48() {
        Subject x = new Subject();
        for (int length = 1; length <= 48; length++) {
            Check.due("put('x')", x.put('x'), length);
        }
        x.wipe();
        for (int i = 1; i <= 6; i++) {
            Check.due("put of 8", x.put(Make.packed("abcdefgh")), 8 * i);
        }
    }

    private static void fails(Subject x, long characters, int error) {
        Check.fails(x, "put(" + characters + ")", y -> y.put(characters), error);
    }

    private static Subject started() {
        Subject x = Make.owners(1);
        Make.type(x, "+1.0,-2");
        return x;
    }

    private static void noCharacter() {
        fails(new Subject(), 0, Check.BAD_VALUE);
        fails(started(), 0, Check.BAD_VALUE);
    }

    private static void lowestAndHighestCode() {
        Subject x = new Subject();
        Check.due("put(33)", x.put(33), 1);
        Check.due("put(126)", x.put(126), 2);
        Check.due("put of eight 33s", x.put(0x2121212121212121L), 10);
        Check.due("put of eight 126s", x.put(0x7e7e7e7e7e7e7e7eL), 18);
        fails(x, 32, Check.BAD_VALUE);
        fails(x, 127, Check.BAD_VALUE);
        fails(x, 0x2020202020202020L, Check.BAD_VALUE);
        fails(x, 0x7f7f7f7f7f7f7f7fL, Check.BAD_VALUE);
    }

    private static void everyBadCode() {
        Subject x = started();
        for (int code = 0; code <= 255; code++) {
            if (code < 33 || code > 126) {
                fails(x, code, Check.BAD_VALUE);
            }
        }
        fails(x, 256 + 'a', Check.BAD_VALUE);
        fails(x, -1, Check.BAD_VALUE);
        fails(x, Long.MIN_VALUE, Check.BAD_VALUE);
        fails(x, Long.MAX_VALUE, Check.BAD_VALUE);
    }

    private static void badCodeAtEachPlace() {
        Subject x = started();
        for (long code : new long[] {1, 32, 127, 128, 161, 255}) {
            for (int place = 0; place < 8; place++) {
                long others = Make.packed("+1.0,-2.") & ~(255L << 8 * place);
                fails(x, others | code << 8 * place, Check.BAD_VALUE);
            }
        }
    }

    private static void bitsAbove0() {
        Subject x = started();
        for (int place = 0; place < 7; place++) {
            fails(x, Make.packed("+1.0,-2.") & ~(255L << 8 * place), Check.BAD_VALUE);
        }
        fails(x, 1L << 63 | 'a', Check.BAD_VALUE);
        fails(x, 1L << 56 | Make.packed("abcdef"), Check.BAD_VALUE);
        fails(x, 1L << 16 | 'a', Check.BAD_VALUE);
        Check.due("put('a')", x.put('a'), 8);
    }

    private static void tooMany() {
        Subject x = Make.owners(1);
        Make.type(x, "x".repeat(41));
        fails(x, Make.packed("abcdefgh"), Check.TOO_MANY);
        Make.type(x, "x".repeat(5));
        fails(x, Make.packed("abc"), Check.TOO_MANY);
        x.put('x');
        fails(x, Make.packed("ab"), Check.TOO_MANY);
        x.put('x');
        fails(x, 'a', Check.TOO_MANY);
    }

    private static void roomForAll() {
        for (int size = 1; size <= 8; size++) {
            Subject x = new Subject();
            Make.type(x, "x".repeat(48 - size));
            Check.due("put of " + size + ", just enough", x.put(Make.packed("abcdefgh".substring(0, size))), 48);
        }
    }
}
