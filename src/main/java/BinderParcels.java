/**
 * Loose-leaf binders of laws whose owners are sent parcels of pages to take out and put in.
 * What each call answers is told by the numbered promises of the document.
 */
public final class BinderParcels {
    public static final int NO_SUCH = -1, BAD_VALUE = -2, BAD_TEXT = -3, TOO_MANY = -4, NOT_POSSIBLE = -5, NONE = -6;

    private static final int MOST_PARCELS = 16;
    private static final int MOST_ORDERS = 8;
    private static final int MOST_OWNERS = 8;
    private static final int MOST_LEAVES = 60;
    private static final int MOST_MENDING = 3;
    private static final int MOST_UNDONE = 6;
    private static final int SLOTS = 2;
    private static final int PAD_LENGTH = 48;

    private static final int LOWEST_NUMBER = 10;
    private static final int HIGHEST_NUMBER = 99;
    private static final int CHECK_DIVISOR = 997;

    /** An order is its number, and this much more if the number is put in. */
    private static final int PUT_IN = 100;

    /** How a binder differs from the text; leaf and of ask for it by the same numbers. */
    private static final int SURPLUS = 3, OLD = 4, MISSING = 5;

    private final State now = new State();
    private final History history = new History();
    private final State[] slots = new State[SLOTS];
    private final boolean[] isSaved = new boolean[SLOTS];
    private final Pad pad = new Pad();

    /** Binders in which parcels are tried out: in the one at n, n parcels of a set are done. */
    private final Binder[] trials = new Binder[MOST_MENDING + 1];

    /** Creates an empty text; no parcels, no owners. */
    public BinderParcels() {
        for (int i = 0; i < slots.length; i++) {
            slots[i] = new State();
        }
        for (int i = 0; i < trials.length; i++) {
            trials[i] = new Binder();
        }
    }

    // ---- changes

    public int issue() {
        if (pad.firstFault() != NONE) {
            return BAD_TEXT;
        }
        if (pad.hasNumberTwice()) {
            return BAD_VALUE;
        }
        if (now.parcels >= MOST_PARCELS) {
            return TOO_MANY;
        }
        history.record(now);
        int parcel = now.addParcel(pad);
        pad.empty();
        return parcel;
    }

    public int own() {
        if (now.owners >= MOST_OWNERS) {
            return TOO_MANY;
        }
        history.record(now);
        return now.addOwner();
    }

    public int done(int owner, int parcel, boolean isCareful) {
        if (!now.hasOwner(owner) || !now.hasParcel(parcel)) {
            return NO_SUCH;
        }
        if (!now.isWaiting(owner, parcel)) {
            return NOT_POSSIBLE;
        }
        history.record(now);
        now.waiting[owner] &= ~(1 << parcel);
        Binder binder = now.binders[owner];
        if (isCareful) {
            now.doWithCare(binder, parcel);
        } else {
            now.doCarelessly(binder, parcel);
        }
        return binder.size;
    }

    public int doAll(int owner) {
        if (!now.hasOwner(owner)) {
            return NO_SUCH;
        }
        history.record(now);
        int parcels = now.waiting[owner];
        now.waiting[owner] = 0;
        now.doSetWithCare(now.binders[owner], parcels);
        return Integer.bitCount(parcels);
    }

    public int lose(int owner, int parcel) {
        if (!now.hasOwner(owner) || !now.hasParcel(parcel)) {
            return NO_SUCH;
        }
        if (!now.isWaiting(owner, parcel)) {
            return NOT_POSSIBLE;
        }
        history.record(now);
        now.waiting[owner] &= ~(1 << parcel);
        now.lost[owner] |= 1 << parcel;
        return Integer.bitCount(now.waiting[owner]);
    }

    public int again(int owner, int parcel) {
        if (!now.hasOwner(owner) || !now.hasParcel(parcel)) {
            return NO_SUCH;
        }
        if (now.isWaiting(owner, parcel)) {
            return NOT_POSSIBLE;
        }
        history.record(now);
        now.waiting[owner] |= 1 << parcel;
        now.lost[owner] &= ~(1 << parcel);
        return Integer.bitCount(now.waiting[owner]);
    }

    public int hand(int owner, int number, int parcel, boolean isPutIn) {
        if (!now.hasOwner(owner) || !now.hasParcel(parcel)) {
            return NO_SUCH;
        }
        if (!isNumber(number)) {
            return BAD_VALUE;
        }
        Binder binder = now.binders[owner];
        boolean isPossible = isPutIn ? binder.size < MOST_LEAVES : binder.holds(number, parcel);
        if (!isPossible) {
            return NOT_POSSIBLE;
        }
        history.record(now);
        if (isPutIn) {
            binder.insert(number, parcel);
        } else {
            binder.remove(number, parcel);
        }
        return binder.size;
    }

    // ---- what there is

    public int parcel(int parcel, int what) {
        if (!now.hasParcel(parcel)) {
            return NO_SUCH;
        }
        if (what < 0 || what > MOST_ORDERS + 2) {
            return BAD_VALUE;
        }
        if (what == 0) {
            return now.orderCounts[parcel];
        }
        if (what <= MOST_ORDERS) {
            return what <= now.orderCounts[parcel] ? now.order(parcel, what - 1) : NONE;
        }
        return now.ownersOf(what == MOST_ORDERS + 1 ? now.waiting : now.lost, parcel);
    }

    public int text(int number) {
        if (!isNumber(number)) {
            return BAD_VALUE;
        }
        return now.text.earliestIssue(number);
    }

    public int leaf(int owner, int number, int what) {
        if (!now.hasOwner(owner)) {
            return NO_SUCH;
        }
        if (!isNumber(number)) {
            return BAD_VALUE;
        }
        Binder binder = now.binders[owner];
        switch (what) {
            case 0:
                return binder.held(number);
            case 1:
                return binder.earliestIssue(number);
            case 2:
                return binder.latestIssue(number);
            case SURPLUS:
            case OLD:
            case MISSING:
                return binder.difference(now.text, number, what);
            default:
                return BAD_VALUE;
        }
    }

    public int of(int owner, int what) {
        if (!now.hasOwner(owner)) {
            return NO_SUCH;
        }
        Binder binder = now.binders[owner];
        switch (what) {
            case 0:
                return binder.size;
            case 1:
                return now.waiting[owner];
            case 2:
                return now.lost[owner];
            case SURPLUS:
            case OLD:
            case MISSING:
                return binder.differences(now.text, what);
            case 6:
                return binder.isSameAs(now.text) ? 1 : 0;
            case 7:
                return binder.checkNumber();
            default:
                return BAD_VALUE;
        }
    }

    public int count(int what) {
        switch (what) {
            case 0:
                return now.parcels;
            case 1:
                return now.owners;
            case 2:
                return now.text.size;
            case 3:
                return now.text.checkNumber();
            case 4:
                return now.ownersWithRightBinders();
            case 5:
                return now.text.leavesOf(0);
            case 6:
                return now.parcelWithMostLeaves();
            case 7:
                return pad.length;
            case 8:
                return history.size;
            default:
                return BAD_VALUE;
        }
    }

    // ---- what if; nothing changes

    public int ifDone(int owner, int parcel) {
        if (!now.hasOwner(owner) || !now.hasParcel(parcel)) {
            return NO_SUCH;
        }
        return tried(owner, 1 << parcel).wrong(now.text);
    }

    public int ifAllDone(int owner) {
        if (!now.hasOwner(owner)) {
            return NO_SUCH;
        }
        return tried(owner, now.waiting[owner]).wrong(now.text);
    }

    public int mending(int owner) {
        if (!now.hasOwner(owner)) {
            return NO_SUCH;
        }
        trials[0].copy(now.binders[owner]);
        for (int size = 0; size <= MOST_MENDING; size++) {
            int set = lowestMending(now, trials, 0, 0, size);
            if (set != NONE) {
                return set;
            }
        }
        return NONE;
    }

    public int rightFrom(int owner) {
        if (!now.hasOwner(owner)) {
            return NO_SUCH;
        }
        for (int first = now.parcels; first >= 0; first--) {
            int fromFirstOn = (1 << now.parcels) - (1 << first);
            if (tried(owner, fromFirstOn).isSameAs(now.text)) {
                return first;
            }
        }
        return NONE;
    }

    // ---- texts

    public int put(long characters) {
        int added = Pad.charactersIn(characters);
        if (added == 0) {
            return BAD_VALUE;
        }
        if (pad.length + added > PAD_LENGTH) {
            return TOO_MANY;
        }
        pad.append(characters, added);
        return pad.length;
    }

    public int wipe() {
        int length = pad.length;
        pad.empty();
        return length;
    }

    public int fault() {
        return pad.firstFault();
    }

    // ---- undo, saving

    public int undo() {
        if (history.size == 0) {
            return NOT_POSSIBLE;
        }
        history.takeBack(now);
        return history.size;
    }

    public int save(int slot) {
        if (!isSlot(slot)) {
            return BAD_VALUE;
        }
        slots[slot].copy(now);
        isSaved[slot] = true;
        return now.parcels;
    }

    public int restore(int slot) {
        if (!isSlot(slot)) {
            return BAD_VALUE;
        }
        if (!isSaved[slot]) {
            return NOT_POSSIBLE;
        }
        history.record(now);
        now.copy(slots[slot]);
        return now.parcels;
    }

    private static boolean isNumber(int number) {
        return number >= LOWEST_NUMBER && number <= HIGHEST_NUMBER;
    }

    private static boolean isSlot(int slot) {
        return slot >= 0 && slot < SLOTS;
    }

    /** What an owner's binder would be if a set of parcels was done in it with care. */
    private Binder tried(int owner, int parcels) {
        Binder trial = trials[0];
        trial.copy(now.binders[owner]);
        now.doSetWithCare(trial, parcels);
        return trial;
    }

    /**
     * The lowest set of so many parcels, none ahead of the first one, that makes the trial of
     * this depth right; NONE if there is none. Earlier parcels are done ahead of later ones, so
     * that sets with the same earlier parcels share the trial in which these are done.
     */
    private static int lowestMending(State state, Binder[] trials, int depth, int first, int size) {
        if (size <= 0 || depth >= MOST_MENDING) {
            return trials[depth].isSameAs(state.text) ? 0 : NONE;
        }
        int lowest = NONE;
        for (int parcel = first; parcel < state.parcels; parcel++) {
            trials[depth + 1].copy(trials[depth]);
            state.doWithCare(trials[depth + 1], parcel);
            int later = lowestMending(state, trials, depth + 1, parcel + 1, size - 1);
            if (later != NONE) {
                int set = later | (1 << parcel);
                lowest = lowest == NONE ? set : Math.min(lowest, set);
            }
        }
        return lowest;
    }

    /**
     * The leaves of a binder, or of the text. They stand in the order of their numbers, those of
     * one number in the order of their issues, so that binders with the same leaves look the same.
     */
    private static final class Binder {
        private final int[] leaves = new int[MOST_LEAVES];
        private int size;

        private static int leafWith(int number, int issue) {
            return number * MOST_PARCELS + issue;
        }

        private static int numberOf(int leaf) {
            return leaf / MOST_PARCELS;
        }

        private static int issueOf(int leaf) {
            return leaf % MOST_PARCELS;
        }

        void copy(Binder other) {
            System.arraycopy(other.leaves, 0, leaves, 0, other.size);
            size = other.size;
        }

        /** Where a leaf stands, or where it would stand. */
        private int placeOf(int leaf) {
            for (int i = 0; i < size; i++) {
                if (leaves[i] >= leaf) {
                    return i;
                }
            }
            return size;
        }

        /** Where the first leaf with a number, or behind it, stands. */
        private int start(int number) {
            return placeOf(leafWith(number, 0));
        }

        /** Where the leaves with a number that begin at a place end. */
        private int end(int number, int start) {
            for (int i = start; i < size; i++) {
                if (numberOf(leaves[i]) != number) {
                    return i;
                }
            }
            return size;
        }

        private void removeRange(int from, int to) {
            System.arraycopy(leaves, to, leaves, from, size - to);
            size -= to - from;
        }

        /** A leaf that would be one too many does not come. */
        void insert(int number, int issue) {
            if (size >= MOST_LEAVES) {
                return;
            }
            int leaf = leafWith(number, issue);
            int place = placeOf(leaf);
            System.arraycopy(leaves, place, leaves, place + 1, size - place);
            leaves[place] = leaf;
            size++;
        }

        void removeAll(int number) {
            int start = start(number);
            removeRange(start, end(number, start));
        }

        void removeEarliest(int number) {
            int start = start(number);
            removeRange(start, Math.min(start + 1, end(number, start)));
        }

        void remove(int number, int issue) {
            if (holds(number, issue)) {
                int place = placeOf(leafWith(number, issue));
                removeRange(place, place + 1);
            }
        }

        boolean holds(int number, int issue) {
            int leaf = leafWith(number, issue);
            int place = placeOf(leaf);
            return place < size && leaves[place] == leaf;
        }

        int held(int number) {
            int start = start(number);
            return end(number, start) - start;
        }

        int earliestIssue(int number) {
            int start = start(number);
            return end(number, start) > start ? issueOf(leaves[start]) : NONE;
        }

        int latestIssue(int number) {
            int start = start(number);
            int end = end(number, start);
            return end > start ? issueOf(leaves[end - 1]) : NONE;
        }

        int leavesOf(int issue) {
            int found = 0;
            for (int i = 0; i < size; i++) {
                if (issueOf(leaves[i]) == issue) {
                    found++;
                }
            }
            return found;
        }

        int checkNumber() {
            int sum = 0;
            for (int i = 0; i < size; i++) {
                sum += numberOf(leaves[i]) * (issueOf(leaves[i]) + 1);
            }
            return sum % CHECK_DIVISOR;
        }

        /** A binder is right if it has the leaves of the text, these alone, and each one once. */
        boolean isSameAs(Binder other) {
            if (size != other.size) {
                return false;
            }
            for (int i = 0; i < size; i++) {
                if (leaves[i] != other.leaves[i]) {
                    return false;
                }
            }
            return true;
        }

        /** How many leaves with a number are surplus, how many old, or whether it is missing. */
        int difference(Binder text, int number, int kind) {
            int held = held(number);
            int issue = text.earliestIssue(number);
            if (issue == NONE) {
                return kind == SURPLUS ? held : 0;
            }
            if (held == 0) {
                return kind == MISSING ? 1 : 0;
            }
            if (kind == SURPLUS) {
                return held - 1;
            }
            return kind == OLD && !holds(number, issue) ? 1 : 0;
        }

        int differences(Binder text, int kind) {
            int sum = 0;
            for (int number = LOWEST_NUMBER; number <= HIGHEST_NUMBER; number++) {
                sum += difference(text, number, kind);
            }
            return sum;
        }

        int wrong(Binder text) {
            return differences(text, SURPLUS) + differences(text, OLD) + differences(text, MISSING);
        }
    }

    /** All that a change can change, and that is saved: everything but the pad. */
    private static final class State {
        private final int[] orders = new int[MOST_PARCELS * MOST_ORDERS];
        private final int[] orderCounts = new int[MOST_PARCELS];
        private int parcels;
        private final Binder text = new Binder();
        private final Binder[] binders = new Binder[MOST_OWNERS];
        private final int[] waiting = new int[MOST_OWNERS];
        private final int[] lost = new int[MOST_OWNERS];
        private int owners;

        State() {
            for (int i = 0; i < binders.length; i++) {
                binders[i] = new Binder();
            }
        }

        void copy(State other) {
            System.arraycopy(other.orders, 0, orders, 0, orders.length);
            System.arraycopy(other.orderCounts, 0, orderCounts, 0, orderCounts.length);
            parcels = other.parcels;
            text.copy(other.text);
            for (int i = 0; i < binders.length; i++) {
                binders[i].copy(other.binders[i]);
            }
            System.arraycopy(other.waiting, 0, waiting, 0, waiting.length);
            System.arraycopy(other.lost, 0, lost, 0, lost.length);
            owners = other.owners;
        }

        boolean hasOwner(int owner) {
            return owner >= 0 && owner < owners;
        }

        boolean hasParcel(int parcel) {
            return parcel >= 0 && parcel < parcels;
        }

        boolean isWaiting(int owner, int parcel) {
            return (waiting[owner] & (1 << parcel)) != 0;
        }

        int order(int parcel, int index) {
            return orders[parcel * MOST_ORDERS + index];
        }

        /** Adds the parcel of a pad that has no fault; there has to be room for it. */
        int addParcel(Pad pad) {
            int parcel = parcels;
            orderCounts[parcel] = pad.orders();
            for (int i = 0; i < orderCounts[parcel]; i++) {
                orders[parcel * MOST_ORDERS + i] = pad.order(i);
            }
            parcels++;
            doWithCare(text, parcel);
            for (int owner = 0; owner < owners; owner++) {
                waiting[owner] |= 1 << parcel;
            }
            return parcel;
        }

        /** Adds an owner, for whom the older parcels count as done; there has to be room. */
        int addOwner() {
            int owner = owners;
            binders[owner].copy(text);
            waiting[owner] = 0;
            lost[owner] = 0;
            owners++;
            return owner;
        }

        void doWithCare(Binder binder, int parcel) {
            for (int i = 0; i < orderCounts[parcel]; i++) {
                int order = order(parcel, i);
                binder.removeAll(order % PUT_IN);
                if (order >= PUT_IN) {
                    binder.insert(order % PUT_IN, parcel);
                }
            }
        }

        void doCarelessly(Binder binder, int parcel) {
            for (int i = 0; i < orderCounts[parcel]; i++) {
                int order = order(parcel, i);
                if (order >= PUT_IN) {
                    binder.insert(order % PUT_IN, parcel);
                } else {
                    binder.removeEarliest(order);
                }
            }
        }

        void doSetWithCare(Binder binder, int set) {
            for (int parcel = 0; parcel < parcels; parcel++) {
                if ((set & (1 << parcel)) != 0) {
                    doWithCare(binder, parcel);
                }
            }
        }

        /** The owners in whose sets of parcels a parcel is. */
        int ownersOf(int[] sets, int parcel) {
            int found = 0;
            for (int owner = 0; owner < owners; owner++) {
                if ((sets[owner] & (1 << parcel)) != 0) {
                    found |= 1 << owner;
                }
            }
            return found;
        }

        int ownersWithRightBinders() {
            int found = 0;
            for (int owner = 0; owner < owners; owner++) {
                if (binders[owner].isSameAs(text)) {
                    found |= 1 << owner;
                }
            }
            return found;
        }

        int parcelWithMostLeaves() {
            int best = NONE;
            int most = 0;
            for (int parcel = 0; parcel < parcels; parcel++) {
                int leaves = text.leavesOf(parcel);
                if (leaves > most) {
                    best = parcel;
                    most = leaves;
                }
            }
            return best;
        }
    }

    /** The states ahead of the latest changes, in a ring of rows that are used again. */
    private static final class History {
        private final State[] states = new State[MOST_UNDONE];
        private int oldest;
        private int size;

        History() {
            for (int i = 0; i < states.length; i++) {
                states[i] = new State();
            }
        }

        void record(State state) {
            states[(oldest + size) % MOST_UNDONE].copy(state);
            if (size < MOST_UNDONE) {
                size++;
            } else {
                oldest = (oldest + 1) % MOST_UNDONE;
            }
        }

        void takeBack(State state) {
            if (size > 0) {
                size--;
                state.copy(states[(oldest + size) % MOST_UNDONE]);
            }
        }
    }

    /** The text in which a parcel is written. */
    private static final class Pad {
        private static final int ORDER_LENGTH = 4;

        /** From the sign of one order to the sign of the next: a comma stands between them. */
        private static final int STEP = ORDER_LENGTH + 1;

        /** The text of a parcel with the most orders has no comma at its end. */
        private static final int LONGEST_PARCEL = MOST_ORDERS * STEP - 1;

        private static final int CHARACTERS_IN_LONG = 8;
        private static final int LOWEST_CODE = 33;
        private static final int HIGHEST_CODE = 126;

        private final char[] characters = new char[PAD_LENGTH];
        private int length;

        /** How many characters a number gives; 0 if it gives none or is not made of characters. */
        static int charactersIn(long packed) {
            long rest = packed;
            int found = 0;
            while (found < CHARACTERS_IN_LONG && rest != 0) {
                long code = rest & 255;
                if (code < LOWEST_CODE || code > HIGHEST_CODE) {
                    return 0;
                }
                rest >>>= 8;
                found++;
            }
            return found;
        }

        /** Appends so many characters; there has to be room for them. */
        void append(long packed, int added) {
            long rest = packed;
            for (int i = length + added - 1; i >= length; i--) {
                characters[i] = (char) (rest & 255);
                rest >>>= 8;
            }
            length += added;
        }

        void empty() {
            length = 0;
        }

        int firstFault() {
            for (int i = 0; i < length; i++) {
                if (!canStand(characters[i], i)) {
                    return i;
                }
            }
            return length % STEP == ORDER_LENGTH ? NONE : length;
        }

        private static boolean canStand(char character, int place) {
            if (place >= LONGEST_PARCEL) {
                return false;
            }
            switch (place % STEP) {
                case 0:
                    return character == '+' || character == '-';
                case 1:
                    return character >= '1' && character <= '9';
                case 2:
                    return character == '.';
                case 3:
                    return character >= '0' && character <= '9';
                default:
                    return character == ',';
            }
        }

        /** How many orders a text without a fault has. */
        int orders() {
            return (length + 1) / STEP;
        }

        /** An order of a text without a fault. */
        int order(int index) {
            int start = index * STEP;
            int number = 10 * (characters[start + 1] - '0') + characters[start + 3] - '0';
            return characters[start] == '+' ? number + PUT_IN : number;
        }

        /** Whether a number comes twice in a text without a fault, put in or taken out. */
        boolean hasNumberTwice() {
            for (int i = 1; i < orders(); i++) {
                for (int j = 0; j < i; j++) {
                    if (order(i) % PUT_IN == order(j) % PUT_IN) {
                        return true;
                    }
                }
            }
            return false;
        }
    }
}
