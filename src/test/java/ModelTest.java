import java.util.Random;
import java.util.function.IntSupplier;

/** Long runs of calls, each answered by BinderParcels and by the model: the answers are the same. */
public final class ModelTest {
    private static final int RUNS = 240;

    private final BinderParcels x = new BinderParcels();
    private final Model model = new Model();
    private final Random random;
    private final int run;
    /** How many of the 90 numbers come in this run: few of them, and leaves gather on each. */
    private final int numbers;
    private final int takenOut;
    private final int careless;
    /** Whether the text, and many a binder, has as many leaves as it can have, or nearly so. */
    private final boolean isFull;
    /** How often, of a hundred times, an argument is at a border or beyond it. */
    private final int astray;
    private int call = 0;

    private ModelTest(int run) {
        this.run = run;
        random = new Random(run * 7919L + 17);
        numbers = new int[] {4, 12, 30, 90}[run % 4];
        takenOut = new int[] {10, 35, 60}[run % 3];
        careless = new int[] {10, 50}[run / 2 % 2];
        isFull = run % 4 == 3 && run % 3 != 2;
        astray = run % 8 < 6 ? 4 : 40;
    }

    public static void main(String[] args) {
        for (int run = 0; run < RUNS; run++) {
            new ModelTest(run).calls();
        }
        Check.finish();
    }

    private void calls() {
        int parcels = run % 5 == 0 ? 16 : random.nextInt(17);
        if (run % 7 != 0) {
            own();
        }
        if (isFull) {
            for (int i = 0; i < 7; i++) {
                issue(Make.row('+', 10 + 8 * i, 8));
            }
            own();
        }
        for (int i = model.count(0); i < parcels; i++) {
            issue();
        }
        while (call < Subject.MOST_CALLS) {
            step();
        }
    }

    private boolean chance(int percent) {
        return random.nextInt(100) < percent;
    }

    /** A step may have calls left when the object has been used for all that are promised. */
    private void due(String name, IntSupplier got, IntSupplier want) {
        if (call < Subject.MOST_CALLS) {
            call++;
            Check.due("run " + run + ", call " + call + ": " + name, got.getAsInt(), want.getAsInt());
        }
    }

    private int oneOf(int... values) {
        return values[random.nextInt(values.length)];
    }

    private int number() {
        return chance(astray) ? oneOf(9, 10, 99, 100, 0, -10, 256 + 10, Integer.MIN_VALUE, Integer.MAX_VALUE)
            : 10 + (random.nextInt(numbers) * 37 + run) % 90;
    }

    private int index(int size) {
        return chance(astray) ? oneOf(-1, size - 1, size, size + 1, 32, 64, Integer.MIN_VALUE, Integer.MAX_VALUE)
            : random.nextInt(Math.max(1, size));
    }

    private int owner() {
        return index(model.count(1));
    }

    private int parcel() {
        return index(model.count(0));
    }

    private int what(int size) {
        return chance(astray / 2) ? oneOf(-1, size - 1, size, Integer.MIN_VALUE, Integer.MAX_VALUE)
            : random.nextInt(size);
    }

    private void own() {
        due("own()", () -> x.own(), () -> model.own());
    }

    private void put(long characters) {
        due("put(" + characters + ")", () -> x.put(characters), () -> model.put(characters));
    }

    private void issue() {
        StringBuilder text = new StringBuilder();
        int orders = numbers == 90 && run % 3 == 0 ? 8 : 1 + random.nextInt(Math.min(8, numbers));
        boolean[] isTaken = new boolean[100];
        for (int i = 0; i < orders; i++) {
            int number = 10 + (random.nextInt(numbers) * 37 + run) % 90;
            if (isTaken[number] && !chance(2)) {
                continue;
            }
            isTaken[number] = true;
            text.append(text.length() == 0 ? "" : ",").append(chance(takenOut) ? '-' : '+');
            text.append(number / 10).append('.').append(number % 10);
        }
        if (chance(6)) {
            text.setCharAt(random.nextInt(text.length()), (char) (33 + random.nextInt(94)));
        }
        issue(text.toString());
    }

    private void issue(String text) {
        if (chance(95)) {
            due("wipe()", () -> x.wipe(), () -> model.wipe());
        }
        for (int i = 0; i < text.length(); i += 8) {
            put(Make.packed(text.substring(i, Math.min(text.length(), i + 8))));
        }
        due("fault()", () -> x.fault(), () -> model.fault());
        due("issue()", () -> x.issue(), () -> model.issue());
    }

    private void step() {
        int kind = random.nextInt(100);
        if (kind < 35) {
            change(random.nextInt(100));
        } else if (kind < 43) {
            undoOrSave(random.nextInt(10));
        } else if (kind < 47) {
            characters();
        } else if (kind < 80) {
            question(random.nextInt(5));
        } else {
            whatIf(random.nextInt(100));
        }
    }

    private void change(int kind) {
        int owner = owner();
        int parcel = parcel();
        if (kind < 8) {
            issue();
        } else if (kind < 14) {
            own();
        } else if (kind < 44) {
            boolean isCareful = !chance(careless);
            due("done(" + owner + ", " + parcel + ", " + isCareful + ")",
                () -> x.done(owner, parcel, isCareful), () -> model.done(owner, parcel, isCareful));
        } else if (kind < 47) {
            due("doAll(" + owner + ")", () -> x.doAll(owner), () -> model.doAll(owner));
        } else if (kind < 57) {
            due("lose(" + owner + ", " + parcel + ")", () -> x.lose(owner, parcel), () -> model.lose(owner, parcel));
        } else if (kind < 77) {
            due("again(" + owner + ", " + parcel + ")", () -> x.again(owner, parcel), () -> model.again(owner, parcel));
        } else {
            int number = number();
            boolean isPutIn = chance(isFull ? 90 : numbers < 30 ? 40 : 70);
            due("hand(" + owner + ", " + number + ", " + parcel + ", " + isPutIn + ")",
                () -> x.hand(owner, number, parcel, isPutIn), () -> model.hand(owner, number, parcel, isPutIn));
        }
    }

    private void undoOrSave(int kind) {
        int slot = index(2);
        if (kind < 5) {
            due("undo()", () -> x.undo(), () -> model.undo());
        } else if (kind < 8) {
            due("save(" + slot + ")", () -> x.save(slot), () -> model.save(slot));
        } else if (chance(40)) {
            due("restore(" + slot + ")", () -> x.restore(slot), () -> model.restore(slot));
        }
    }

    private void characters() {
        long bits = random.nextLong() & 0x7f7f7f7f7f7f7f7fL;
        put(chance(50) ? bits >>> 8 * random.nextInt(8) : random.nextLong());
        due("fault()", () -> x.fault(), () -> model.fault());
        if (chance(20)) {
            due("wipe()", () -> x.wipe(), () -> model.wipe());
        }
    }

    private void question(int kind) {
        int owner = owner();
        int parcel = parcel();
        int number = number();
        if (kind == 0) {
            int what = what(11);
            due("parcel(" + parcel + ", " + what + ")", () -> x.parcel(parcel, what), () -> model.parcel(parcel, what));
        } else if (kind == 1) {
            due("text(" + number + ")", () -> x.text(number), () -> model.text(number));
        } else if (kind == 2) {
            int what = what(6);
            due("leaf(" + owner + ", " + number + ", " + what + ")",
                () -> x.leaf(owner, number, what), () -> model.leaf(owner, number, what));
        } else if (kind == 3) {
            int what = what(8);
            due("of(" + owner + ", " + what + ")", () -> x.of(owner, what), () -> model.of(owner, what));
        } else {
            int what = what(9);
            due("count(" + what + ")", () -> x.count(what), () -> model.count(what));
        }
    }

    private void whatIf(int kind) {
        int owner = owner();
        int parcel = parcel();
        if (kind < 40) {
            due("ifDone(" + owner + ", " + parcel + ")",
                () -> x.ifDone(owner, parcel), () -> model.ifDone(owner, parcel));
        } else if (kind < 65) {
            due("ifAllDone(" + owner + ")", () -> x.ifAllDone(owner), () -> model.ifAllDone(owner));
        } else if (kind < 80) {
            due("mending(" + owner + ")", () -> x.mending(owner), () -> model.mending(owner));
        } else {
            due("rightFrom(" + owner + ")", () -> x.rightFrom(owner), () -> model.rightFrom(owner));
        }
    }
}
