import java.util.ArrayDeque;
import java.util.ArrayList;
import java.util.Arrays;
import java.util.Deque;
import java.util.HashSet;
import java.util.List;
import java.util.Map;
import java.util.Set;
import java.util.TreeMap;
import java.util.TreeSet;

/**
 * The document in its plainest form, with the Java library and without a thought for speed: it
 * shares no way of doing things with BinderParcels, so that a fault in one shows against the other.
 */
final class Model {
    private static final int NO_SUCH = -1, BAD_VALUE = -2, BAD_TEXT = -3, TOO_MANY = -4, NOT_POSSIBLE = -5, NONE = -6;

    private record Leaf(int number, int issue) {
    }

    private record Order(boolean isPutIn, int number) {
    }

    private static final class Owner {
        List<Leaf> binder = new ArrayList<>();
        Set<Integer> waiting = new TreeSet<>();
        Set<Integer> lost = new TreeSet<>();
    }

    private static final class World {
        List<List<Order>> parcels = new ArrayList<>();
        List<Owner> owners = new ArrayList<>();

        World copy() {
            World copy = new World();
            copy.parcels.addAll(parcels);
            for (Owner owner : owners) {
                Owner twin = new Owner();
                twin.binder.addAll(owner.binder);
                twin.waiting.addAll(owner.waiting);
                twin.lost.addAll(owner.lost);
                copy.owners.add(twin);
            }
            return copy;
        }

        List<Leaf> text() {
            List<Leaf> text = new ArrayList<>();
            for (int parcel = 0; parcel < parcels.size(); parcel++) {
                careful(text, parcel);
            }
            return text;
        }

        void careful(List<Leaf> binder, int parcel) {
            for (Order order : parcels.get(parcel)) {
                binder.removeIf(leaf -> leaf.number == order.number);
                if (order.isPutIn && binder.size() < 60) {
                    binder.add(new Leaf(order.number, parcel));
                }
            }
        }

        void careless(List<Leaf> binder, int parcel) {
            for (Order order : parcels.get(parcel)) {
                if (order.isPutIn) {
                    if (binder.size() < 60) {
                        binder.add(new Leaf(order.number, parcel));
                    }
                } else {
                    for (int issue = 0; issue < 16; issue++) {
                        if (binder.remove(new Leaf(order.number, issue))) {
                            break;
                        }
                    }
                }
            }
        }

        List<Leaf> with(int owner, Iterable<Integer> set) {
            List<Leaf> binder = new ArrayList<>(owners.get(owner).binder);
            for (int parcel : set) {
                careful(binder, parcel);
            }
            return binder;
        }
    }

    private World world = new World();
    private final Deque<World> history = new ArrayDeque<>();
    private final World[] slots = new World[2];
    private String pad = "";

    private boolean hasOwner(int owner) {
        return owner >= 0 && owner < world.owners.size();
    }

    private boolean hasParcel(int parcel) {
        return parcel >= 0 && parcel < world.parcels.size();
    }

    private void record() {
        history.addLast(world.copy());
        if (history.size() > 6) {
            history.removeFirst();
        }
    }

    private static int mask(Iterable<Integer> set) {
        int mask = 0;
        for (int element : set) {
            mask |= 1 << element;
        }
        return mask;
    }

    private static List<Integer> elements(int mask) {
        List<Integer> elements = new ArrayList<>();
        for (int i = 0; i < 31; i++) {
            if ((mask >> i & 1) == 1) {
                elements.add(i);
            }
        }
        return elements;
    }

    private static int issueIn(List<Leaf> text, int number) {
        for (Leaf leaf : text) {
            if (leaf.number == number) {
                return leaf.issue;
            }
        }
        return NONE;
    }

    private static int check(List<Leaf> binder) {
        return binder.stream().mapToInt(leaf -> leaf.number * (leaf.issue + 1)).sum() % 997;
    }

    /** Surplus leaves, old ones, missing numbers: of one number. */
    private static int[] wrongOf(List<Leaf> binder, List<Leaf> text, int number) {
        List<Integer> issues = binder.stream().filter(leaf -> leaf.number == number).map(Leaf::issue).toList();
        int due = issueIn(text, number);
        if (due == NONE) {
            return new int[] {issues.size(), 0, 0};
        }
        if (issues.isEmpty()) {
            return new int[] {0, 0, 1};
        }
        return new int[] {issues.size() - 1, issues.contains(due) ? 0 : 1, 0};
    }

    private static int[] wrongOf(List<Leaf> binder, List<Leaf> text) {
        int[] sums = new int[3];
        for (int number = 10; number < 100; number++) {
            int[] wrong = wrongOf(binder, text, number);
            for (int i = 0; i < 3; i++) {
                sums[i] += wrong[i];
            }
        }
        return sums;
    }

    private static int sum(int[] numbers) {
        return Arrays.stream(numbers).sum();
    }

    private static boolean isRight(List<Leaf> binder, List<Leaf> text) {
        return binder.size() == text.size() && sum(wrongOf(binder, text)) == 0;
    }

    int issue() {
        if (fault() != NONE) {
            return BAD_TEXT;
        }
        List<Order> orders = new ArrayList<>();
        Set<Integer> numbers = new HashSet<>();
        for (String order : pad.split(",")) {
            int number = Integer.parseInt(order.substring(1, 2) + order.substring(3));
            orders.add(new Order(order.startsWith("+"), number));
            numbers.add(number);
        }
        if (numbers.size() < orders.size()) {
            return BAD_VALUE;
        }
        if (world.parcels.size() == 16) {
            return TOO_MANY;
        }
        record();
        world.parcels.add(orders);
        for (Owner owner : world.owners) {
            owner.waiting.add(world.parcels.size() - 1);
        }
        pad = "";
        return world.parcels.size() - 1;
    }

    int own() {
        if (world.owners.size() == 8) {
            return TOO_MANY;
        }
        record();
        Owner owner = new Owner();
        owner.binder = world.text();
        world.owners.add(owner);
        return world.owners.size() - 1;
    }

    int done(int owner, int parcel, boolean isCareful) {
        if (!hasOwner(owner) || !hasParcel(parcel)) {
            return NO_SUCH;
        }
        if (!world.owners.get(owner).waiting.contains(parcel)) {
            return NOT_POSSIBLE;
        }
        record();
        Owner who = world.owners.get(owner);
        who.waiting.remove(parcel);
        if (isCareful) {
            world.careful(who.binder, parcel);
        } else {
            world.careless(who.binder, parcel);
        }
        return who.binder.size();
    }

    int doAll(int owner) {
        if (!hasOwner(owner)) {
            return NO_SUCH;
        }
        record();
        Owner who = world.owners.get(owner);
        who.binder = world.with(owner, who.waiting);
        int size = who.waiting.size();
        who.waiting.clear();
        return size;
    }

    int lose(int owner, int parcel) {
        if (!hasOwner(owner) || !hasParcel(parcel)) {
            return NO_SUCH;
        }
        if (!world.owners.get(owner).waiting.contains(parcel)) {
            return NOT_POSSIBLE;
        }
        record();
        world.owners.get(owner).waiting.remove(parcel);
        world.owners.get(owner).lost.add(parcel);
        return world.owners.get(owner).waiting.size();
    }

    int again(int owner, int parcel) {
        if (!hasOwner(owner) || !hasParcel(parcel)) {
            return NO_SUCH;
        }
        if (world.owners.get(owner).waiting.contains(parcel)) {
            return NOT_POSSIBLE;
        }
        record();
        world.owners.get(owner).lost.remove(parcel);
        world.owners.get(owner).waiting.add(parcel);
        return world.owners.get(owner).waiting.size();
    }

    int hand(int owner, int number, int parcel, boolean isPutIn) {
        if (!hasOwner(owner) || !hasParcel(parcel)) {
            return NO_SUCH;
        }
        if (number < 10 || number > 99) {
            return BAD_VALUE;
        }
        Leaf leaf = new Leaf(number, parcel);
        List<Leaf> binder = world.owners.get(owner).binder;
        if (isPutIn && binder.size() == 60 || !isPutIn && !binder.contains(leaf)) {
            return NOT_POSSIBLE;
        }
        record();
        if (isPutIn) {
            binder.add(leaf);
        } else {
            binder.remove(leaf);
        }
        return binder.size();
    }

    int parcel(int parcel, int what) {
        if (!hasParcel(parcel)) {
            return NO_SUCH;
        }
        if (what < 0 || what > 10) {
            return BAD_VALUE;
        }
        List<Order> orders = world.parcels.get(parcel);
        if (what == 0) {
            return orders.size();
        }
        if (what <= 8) {
            if (what > orders.size()) {
                return NONE;
            }
            return orders.get(what - 1).number + (orders.get(what - 1).isPutIn ? 100 : 0);
        }
        Set<Integer> found = new TreeSet<>();
        for (int i = 0; i < world.owners.size(); i++) {
            Owner owner = world.owners.get(i);
            if ((what == 9 ? owner.waiting : owner.lost).contains(parcel)) {
                found.add(i);
            }
        }
        return mask(found);
    }

    int text(int number) {
        return number < 10 || number > 99 ? BAD_VALUE : issueIn(world.text(), number);
    }

    int leaf(int owner, int number, int what) {
        if (!hasOwner(owner)) {
            return NO_SUCH;
        }
        if (number < 10 || number > 99 || what < 0 || what > 5) {
            return BAD_VALUE;
        }
        List<Leaf> binder = world.owners.get(owner).binder;
        TreeMap<Integer, Integer> issues = new TreeMap<>();
        for (Leaf leaf : binder) {
            if (leaf.number == number) {
                issues.merge(leaf.issue, 1, Integer::sum);
            }
        }
        if (what == 0) {
            return issues.values().stream().mapToInt(Integer::intValue).sum();
        }
        if (what <= 2) {
            Map.Entry<Integer, Integer> entry = what == 1 ? issues.firstEntry() : issues.lastEntry();
            return entry == null ? NONE : entry.getKey();
        }
        return wrongOf(binder, world.text(), number)[what - 3];
    }

    int of(int owner, int what) {
        if (!hasOwner(owner)) {
            return NO_SUCH;
        }
        Owner who = world.owners.get(owner);
        return switch (what) {
            case 0 -> who.binder.size();
            case 1 -> mask(who.waiting);
            case 2 -> mask(who.lost);
            case 3, 4, 5 -> wrongOf(who.binder, world.text())[what - 3];
            case 6 -> sum(wrongOf(who.binder, world.text())) == 0 ? 1 : 0;
            case 7 -> check(who.binder);
            default -> BAD_VALUE;
        };
    }

    int count(int what) {
        List<Leaf> text = world.text();
        switch (what) {
            case 0: return world.parcels.size();
            case 1: return world.owners.size();
            case 2: return text.size();
            case 3: return check(text);
            case 4:
                Set<Integer> right = new TreeSet<>();
                for (int i = 0; i < world.owners.size(); i++) {
                    if (sum(wrongOf(world.owners.get(i).binder, text)) == 0) {
                        right.add(i);
                    }
                }
                return mask(right);
            case 5: return (int) text.stream().filter(leaf -> leaf.issue == 0).count();
            case 6:
                int[] leaves = new int[16];
                text.forEach(leaf -> leaves[leaf.issue]++);
                int most = Arrays.stream(leaves).max().getAsInt();
                for (int i = 0; i < 16; i++) {
                    if (most > 0 && leaves[i] == most) {
                        return i;
                    }
                }
                return NONE;
            case 7: return pad.length();
            case 8: return history.size();
            default: return BAD_VALUE;
        }
    }

    int ifDone(int owner, int parcel) {
        if (!hasOwner(owner) || !hasParcel(parcel)) {
            return NO_SUCH;
        }
        return sum(wrongOf(world.with(owner, List.of(parcel)), world.text()));
    }

    int ifAllDone(int owner) {
        if (!hasOwner(owner)) {
            return NO_SUCH;
        }
        return sum(wrongOf(world.with(owner, world.owners.get(owner).waiting), world.text()));
    }

    int mending(int owner) {
        if (!hasOwner(owner)) {
            return NO_SUCH;
        }
        List<Leaf> text = world.text();
        for (int size = 0; size <= 3; size++) {
            for (int set = 0; set < 1 << world.parcels.size(); set++) {
                if (Integer.bitCount(set) == size && isRight(world.with(owner, elements(set)), text)) {
                    return set;
                }
            }
        }
        return NONE;
    }

    int rightFrom(int owner) {
        if (!hasOwner(owner)) {
            return NO_SUCH;
        }
        List<Leaf> text = world.text();
        int latest = NONE;
        for (int first = 0; first <= world.parcels.size(); first++) {
            List<Integer> rest = new ArrayList<>();
            for (int parcel = first; parcel < world.parcels.size(); parcel++) {
                rest.add(parcel);
            }
            if (isRight(world.with(owner, rest), text)) {
                latest = first;
            }
        }
        return latest;
    }

    int put(long characters) {
        StringBuilder text = new StringBuilder();
        boolean isOver = false;
        for (int shift = 0; shift < 64; shift += 8) {
            int code = (int) (characters >>> shift & 255);
            if (code == 0) {
                isOver = true;
            } else if (isOver || code < 33 || code > 126) {
                return BAD_VALUE;
            } else {
                text.insert(0, (char) code);
            }
        }
        if (text.length() == 0) {
            return BAD_VALUE;
        }
        if (pad.length() + text.length() > 48) {
            return TOO_MANY;
        }
        pad += text;
        return pad.length();
    }

    int wipe() {
        int length = pad.length();
        pad = "";
        return length;
    }

    private static final String ORDER = "[+-][1-9]\\.[0-9]";

    /** The longest beginning of the pad that some parcel's text begins with tells the fault. */
    int fault() {
        if (pad.matches(ORDER + "(," + ORDER + "){0,7}")) {
            return NONE;
        }
        String sample = "+1.0,+1.0,+1.0,+1.0,+1.0,+1.0,+1.0,+1.0";
        for (int length = pad.length(); length > 0; length--) {
            String start = pad.substring(0, length);
            if (length <= 39 && (start + sample.substring(length)).matches(ORDER + "(," + ORDER + "){7}")) {
                return length;
            }
        }
        return 0;
    }

    int undo() {
        if (history.isEmpty()) {
            return NOT_POSSIBLE;
        }
        world = history.removeLast();
        return history.size();
    }

    int save(int slot) {
        if (slot != 0 && slot != 1) {
            return BAD_VALUE;
        }
        slots[slot] = world.copy();
        return world.parcels.size();
    }

    int restore(int slot) {
        if (slot != 0 && slot != 1) {
            return BAD_VALUE;
        }
        if (slots[slot] == null) {
            return NOT_POSSIBLE;
        }
        record();
        world = slots[slot].copy();
        return world.parcels.size();
    }
}
