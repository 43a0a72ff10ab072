import java.util.ArrayList;
import java.util.List;

/** What the tests share: due answers, texts as calls of put, and pictures of an object. */
final class Check {
    static final int NO_SUCH = -1, BAD_VALUE = -2, BAD_TEXT = -3, TOO_MANY = -4, NOT_POSSIBLE = -5, NONE = -6;

    private static int wrong = 0;

    private Check() {
    }

    static void due(String call, long got, long want) {
        if (got != want) {
            wrong++;
            System.out.println(call + " answered " + got + ", due is " + want);
        }
    }

    static void same(String call, List<Integer> got, List<Integer> want) {
        if (!got.equals(want)) {
            wrong++;
            System.out.println(call + " gives " + got + ", due is " + want);
        }
    }

    static void finish() {
        if (wrong != 0) {
            System.out.println(wrong + " answers are not as due");
            System.exit(1);
        }
    }

    /** Up to 8 characters as the number that put takes. */
    static long packed(String characters) {
        long number = 0;
        for (int i = 0; i < characters.length(); i++) {
            number = number << 8 | characters.charAt(i);
        }
        return number;
    }

    /** Puts a text in pieces; returns what the last call of put answered. */
    static int type(BinderParcels x, String text) {
        int answer = 0;
        for (int i = 0; i < text.length(); i += 8) {
            answer = x.put(packed(text.substring(i, Math.min(text.length(), i + 8))));
        }
        return answer;
    }

    /** Issues the parcel of a text. */
    static int issue(BinderParcels x, String text) {
        x.wipe();
        type(x, text);
        return x.issue();
    }

    /** The text of a parcel that puts in, or takes out, so many numbers from a number on. */
    static String row(char sign, int first, int size) {
        StringBuilder text = new StringBuilder();
        for (int number = first; number < first + size; number++) {
            text.append(text.length() == 0 ? "" : ",").append(sign);
            text.append(number / 10).append('.').append(number % 10);
        }
        return text.toString();
    }

    /** Issues parcels of 8 numbers each, from 1.0 on. */
    static void issueRows(BinderParcels x, int parcels) {
        for (int i = 0; i < parcels; i++) {
            due("a row's issue()", issue(x, row('+', 10 + 8 * i, 8)), x.count(0) - 1);
        }
    }

    /** How often each number, 10 to 99, stands in the text, and of which issue. */
    static List<Integer> textOf(BinderParcels x) {
        List<Integer> issues = new ArrayList<>();
        for (int number = 10; number <= 99; number++) {
            issues.add(x.text(number));
        }
        return issues;
    }

    /** What can be seen of an object apart from its pad and its history. */
    static List<Integer> picture(BinderParcels x) {
        List<Integer> seen = new ArrayList<>();
        for (int what = 0; what <= 6; what++) {
            seen.add(x.count(what));
        }
        for (int parcel = 0; parcel < x.count(0); parcel++) {
            for (int what = 0; what <= 10; what++) {
                seen.add(x.parcel(parcel, what));
            }
        }
        for (int owner = 0; owner < x.count(1); owner++) {
            for (int what = 0; what <= 7; what++) {
                seen.add(x.of(owner, what));
            }
        }
        return seen;
    }

    /** The same with the pad and the history: what an error may not change. */
    static List<Integer> wholePicture(BinderParcels x) {
        List<Integer> seen = picture(x);
        seen.add(x.count(7));
        seen.add(x.count(8));
        seen.add(x.fault());
        return seen;
    }
}
