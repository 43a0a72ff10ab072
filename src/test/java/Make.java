/** Texts, and objects that tests begin with. */
final class Make {
    private Make() {
    }

    /** Up to 8 characters as the number that put takes. */
    static long packed(String characters) {
        long number = 0;
        for (int i = 0; i < characters.length(); i++) {
            number = number << 8 | characters.charAt(i);
        }
        return number;
    }

    /** Puts a text in pieces; returns what the last call of put answered. */
    static int type(Subject x, String text) {
        int answer = 0;
        for (int i = 0; i < text.length(); i += 8) {
            answer = x.put(packed(text.substring(i, Math.min(text.length(), i + 8))));
        }
        return answer;
    }

    /** Issues the parcel of a text. */
    static int issue(Subject x, String text) {
        x.wipe();
        type(x, text);
        return x.issue();
    }

    static Subject issueAll(Subject x, String... texts) {
        for (String text : texts) {
            Check.due("issue() of " + text, issue(x, text), x.count(0) - 1);
        }
        return x;
    }

    /** An object of which these parcels were issued, without owners. */
    static Subject parcels(String... texts) {
        return issueAll(new Subject(), texts);
    }

    static Subject owners(int owners) {
        Subject x = new Subject();
        for (int owner = 0; owner < owners; owner++) {
            Check.due("own()", x.own(), owner);
        }
        return x;
    }

    /** An object with one owner, for whom these parcels wait. */
    static Subject waiting(String... texts) {
        return issueAll(owners(1), texts);
    }

    /** The text of a parcel that puts in, or takes out, so many numbers from a number on. */
    static String row(char sign, int first, int size) {
        StringBuilder text = new StringBuilder();
        for (int number = first; number < first + size; number++) {
            text.append(text.length() == 0 ? "" : ",").append(sign);
            text.append(number / 10).append('.').append(number % 10);
        }
        return text.toString();
    }

    /** Issues the parcels 0 to 7, which put 1.0 to 6.9 in: 60 leaves, eight of each, and four of the last. */
    static Subject issueSixty(Subject x) {
        for (int parcel = 0; parcel < 8; parcel++) {
            issueAll(x, row('+', 10 + 8 * parcel, parcel < 7 ? 8 : 4));
        }
        return x;
    }

    /** An object whose text has 60 leaves, 1.0 to 6.9, and its one owner's binder, too. */
    static Subject full() {
        Subject x = issueSixty(new Subject());
        x.own();
        return x;
    }

    /** Puts so many leaves in by hand. */
    static void hand(Subject x, int owner, int number, int parcel, int leaves) {
        for (int i = 0; i < leaves; i++) {
            x.hand(owner, number, parcel, true);
        }
    }

    /** An object that has something of everything: as many parcels and owners and changes as there can be. */
    static Subject rich() {
        Subject x = owners(3);
        for (int parcel = 0; parcel < 16; parcel++) {
            issue(x, row(parcel % 3 == 2 ? '-' : '+', 10 + 5 * parcel % 12, 1 + parcel % 3));
            if (parcel % 3 == 1) {
                x.own();
            }
            if (parcel == 9) {
                x.save(1);
            }
        }
        for (int owner = 0; owner < 7; owner++) {
            x.done(owner, 15, owner % 2 == 0);
            x.lose(owner, 14);
        }
        x.doAll(7);
        x.again(7, 1);
        x.hand(1, 99, 3, true);
        x.done(1, 0, false);
        x.lose(2, 5);
        x.hand(1, 10, 0, false);
        type(x, "+1.0,-2.5");
        return x;
    }
}
