/** count. */
public final class Promise13Test {
    public static void main(String[] args) {
        numbers();
        mostLeaves();
        rightOwners();
        changes();
        errors();
        Check.finish();
    }

    private static void due(BinderParcels x, int what, int want) {
        Check.due("count(" + what + ")", x.count(what), want);
    }

    private static void numbers() {
        BinderParcels x = new BinderParcels();
        Check.issue(x, "+1.0,+2.0,+3.0,+4.0");
        due(x, 0, 1);
        due(x, 1, 0);
        due(x, 2, 4);
        due(x, 3, 100);
        due(x, 5, 4);
        due(x, 6, 0);
        Check.issue(x, "+2.0,-4.0,+5.0");
        due(x, 2, 4);
        due(x, 3, 10 + 40 + 30 + 100);
        due(x, 5, 2);
        due(x, 6, 0);
        Check.issue(x, "+1.0");
        due(x, 5, 1);
        due(x, 6, 1);
        Check.issue(x, "+9.9,+9.8,+9.7");
        due(x, 2, 7);
        due(x, 3, (30 + 40 + 30 + 100 + (99 + 98 + 97) * 4) % 997);
        due(x, 6, 3);
        x.own();
        x.own();
        due(x, 1, 2);
        Check.issue(x, "-1.0,-2.0,-3.0,-5.0,-9.9,-9.8,-9.7");
        due(x, 0, 5);
        due(x, 2, 0);
        due(x, 3, 0);
        due(x, 5, 0);
        due(x, 6, Check.NONE);
        due(x, 7, 0);
        Check.type(x, "anything at".replace(' ', '-'));
        due(x, 7, 11);
    }

    private static void mostLeaves() {
        BinderParcels x = new BinderParcels();
        Check.issue(x, "-1.0");
        due(x, 6, Check.NONE);
        Check.issue(x, "+1.0");
        due(x, 6, 1);
        Check.issue(x, "+2.0");
        due(x, 6, 1);
        Check.issue(x, "+1.0");
        due(x, 6, 2);
        Check.issue(x, "+3.0,+4.0,-2.0");
        due(x, 6, 4);
        due(x, 5, 0);
        due(x, 2, 3);
    }

    private static void rightOwners() {
        BinderParcels x = new BinderParcels();
        due(x, 4, 0);
        for (int i = 0; i < 8; i++) {
            x.own();
        }
        due(x, 4, 255);
        Check.issue(x, "+1.0");
        due(x, 4, 0);
        x.done(7, 0, true);
        x.done(3, 0, false);
        due(x, 4, 136);
        x.hand(3, 10, 0, true);
        due(x, 4, 128);
        x.lose(0, 0);
        x.hand(0, 10, 0, true);
        due(x, 4, 129);
        x.hand(0, 11, 0, true);
        x.hand(0, 10, 0, false);
        due(x, 4, 128);
    }

    private static void changes() {
        BinderParcels x = new BinderParcels();
        for (int i = 1; i <= 8; i++) {
            x.own();
            due(x, 8, Math.min(i, 6));
        }
        x.undo();
        due(x, 8, 5);
    }

    private static void errors() {
        BinderParcels x = new BinderParcels();
        due(x, -1, Check.BAD_VALUE);
        due(x, 9, Check.BAD_VALUE);
        due(x, Integer.MAX_VALUE, Check.BAD_VALUE);
        due(x, Integer.MIN_VALUE, Check.BAD_VALUE);
    }
}
