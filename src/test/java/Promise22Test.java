import java.util.Map;

/** save. */
public final class Promise22Test {
    static Section section() {
        return new Section("Promise 22: save")
            .holds("Saves everything except the pad, the history and the slots in a slot,",
                Promise22Test::everything, Promise22Test::savedStaysAsItWas, Promise22Test::notThePad,
                Promise22Test::notTheHistory, Promise22Test::notTheSlots, Promise22Test::changesNothing)
            .holds("and overwrites what was saved there.",
                Promise22Test::overwrites, Promise22Test::overwritesMoreByLess)
            .holds("- `slot`: 0 or 1", Promise22Test::twoSlots)
            .holds("Returns how many parcels there are;", Promise22Test::from0To16)
            .holds("BAD_VALUE if there is no such slot.", Promise22Test::noSuchSlot);
    }

    public static void main(String[] args) {
        section().run();
    }

    private static void everything() {
        for (int i = 0; i < 2; i++) {
            int slot = i;
            Subject x = Make.rich();
            Map<String, Integer> before = Picture.of(x);
            Check.due("save(" + slot + ")", x.save(slot), 16);
            x.undo();
            for (int owner = 0; owner < 8; owner++) {
                x.again(owner, 15);
                x.lose(owner, 15);
                x.hand(owner, 33, owner, true);
            }
            x.restore(slot);
            Check.same("restore(" + slot + ")", Picture.of(x), before);
        }
    }

    private static void savedStaysAsItWas() {
        Subject x = Make.issueAll(Make.owners(2), "+1.0", "+2.0");
        x.save(0);
        x.doAll(0);
        x.lose(1, 0);
        x.hand(1, 99, 0, true);
        Make.issueAll(x, "-1.0");
        x.own();
        Subject saved = Make.issueAll(Make.owners(2), "+1.0", "+2.0");
        x.restore(0);
        Check.same("restore(0)", Picture.of(x), Picture.of(saved));
    }

    private static void notThePad() {
        Subject x = Make.owners(1);
        Make.type(x, "+1.0");
        x.save(0);
        Check.due("count(7), save(0) leaves the pad", x.count(7), 4);
        x.put(',');
        x.restore(0);
        Check.due("count(7), restore(0) leaves the pad", x.count(7), 5);
    }

    private static void notTheHistory() {
        Subject x = Make.owners(2);
        x.save(0);
        Check.due("count(8), save(0) is no change", x.count(8), 2);
        x.undo();
        x.undo();
        x.restore(0);
        Check.due("count(8), restore(0)", x.count(8), 1);
        Check.due("undo()", x.undo(), 0);
        Check.due("count(1)", x.count(1), 0);
    }

    private static void notTheSlots() {
        Subject x = Make.owners(1);
        x.save(0);
        x.own();
        x.save(1);
        x.own();
        x.save(0);
        x.restore(1);
        Check.due("count(1), the second slot", x.count(1), 2);
        x.restore(0);
        Check.due("count(1), the first slot as it was saved last", x.count(1), 3);
    }

    private static void changesNothing() {
        Subject x = Make.rich();
        Subject saved = x.twin();
        saved.save(0);
        Map<String, Integer> without = Picture.whole(x);
        Map<String, Integer> with = Picture.whole(saved);
        without.keySet().removeIf(question -> question.startsWith("restore(0)"));
        with.keySet().removeIf(question -> question.startsWith("restore(0)"));
        Check.same("save(0)", with, without);
    }

    private static void overwrites() {
        Subject x = Make.owners(1);
        x.save(0);
        x.own();
        x.save(0);
        x.own();
        x.restore(0);
        Check.due("count(1)", x.count(1), 2);
    }

    private static void overwritesMoreByLess() {
        Subject x = Make.rich();
        x.save(0);
        x.restore(1);
        x.save(0);
        Map<String, Integer> saved = Picture.of(x);
        x.undo();
        x.restore(0);
        Check.same("restore(0) of less", Picture.of(x), saved);
        Subject empty = new Subject();
        empty.save(1);
        Make.issueAll(empty, "+1.0");
        empty.own();
        empty.save(0);
        empty.restore(1);
        empty.save(0);
        empty.undo();
        Check.due("restore(0) of nothing", empty.restore(0), 0);
        Check.same("restore(0) of nothing", Picture.of(empty), Picture.of(new Subject()));
    }

    private static void twoSlots() {
        Subject x = Make.owners(1);
        Check.due("save(0)", x.save(0), 0);
        Make.issueAll(x, "+1.0");
        Check.due("save(1)", x.save(1), 1);
        Make.issueAll(x, "+2.0");
        Check.due("restore(0)", x.restore(0), 0);
        Check.due("restore(1)", x.restore(1), 1);
    }

    private static void from0To16() {
        Subject x = new Subject();
        for (int parcels = 0; parcels <= 16; parcels++) {
            Check.due("save(" + parcels % 2 + ")", x.save(parcels % 2), parcels);
            Make.issue(x, "+1.0");
        }
    }

    private static void noSuchSlot() {
        Subject x = Make.rich();
        for (int slot : new int[] {-1, 2, 3, Integer.MIN_VALUE, Integer.MAX_VALUE}) {
            Check.fails(x, "save(" + slot + ")", y -> y.save(slot), Check.BAD_VALUE);
        }
    }
}
