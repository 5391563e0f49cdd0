/** Promises 6 to 10. */
public final class JointsTest {
    private static final Class<IndexOutOfBoundsException> INDEX = IndexOutOfBoundsException.class;
    private static final Class<IllegalArgumentException> ARGUMENT = IllegalArgumentException.class;
    private static final int[] FAR = {Integer.MIN_VALUE, -1, 4, Integer.MAX_VALUE};
    private static final int[] NO_AMOUNT = {Integer.MIN_VALUE, -1, 100, Integer.MAX_VALUE};

    /** One of weight, hanger and prop. */
    private interface Change {
        int of(HangingChain x, int joint, int amount);
    }

    public static void main(String[] args) {
        Check check = new Check();
        change(check, "6: weight", 1, HangingChain::weight);
        change(check, "7: hanger", 2, HangingChain::hanger);
        change(check, "8: prop", 3, HangingChain::prop);
        move(check);
        moveAtWalls(check);
        set(check);
        check.end();
    }

    private static void change(Check check, String name, int what, Change change) {
        HangingChain x = Check.shaped("===");
        check.same(name, change.of(x, 0, 99), 0);
        check.same(name, change.of(x, 1, 1), 0);
        check.same(name, change.of(x, 3, 50), 0);
        check.same(name + " again", change.of(x, 3, 51), 50);
        check.text(name + "s", Check.joints(x, what), "99 1 0 51");
        for (int other = 1; other <= 3; other++) {
            if (other != what) {
                check.text(name + " leaves " + other, Check.joints(x, other), "0 0 0 0");
            }
        }
        check.same(name + " saved", x.count(10), 5);
        check.same(name + " the same", change.of(x, 3, 51), 51);
        check.same(name + " saved, also if nothing changes", x.count(10), 6);
        check.same(name + " to none", change.of(x, 0, 0), 99);
        x.undo();
        x.undo();
        x.undo();
        check.text(name + "s undone", Check.joints(x, what), "99 1 0 50");
        for (int joint : FAR) {
            check.refuses(name + " at " + joint, x, INDEX, () -> change.of(x, joint, 5));
            check.refuses(name + " at " + joint + ", 100", x, INDEX, () -> change.of(x, joint, 100));
        }
        for (int amount : NO_AMOUNT) {
            check.refuses(name + " of " + amount, x, ARGUMENT, () -> change.of(x, 1, amount));
        }
    }

    private static void move(Check check) {
        HangingChain x = Check.shaped("=[30]=[80]=");
        x.hanger(1, 7);
        check.same("9: move what finds room", x.move(1, 2), 19);
        check.text("9: weights", Check.joints(x, 1), "0 11 99 0");
        check.same("9: move to a full one", x.move(1, 2), 0);
        check.same("9: saved, also if nothing changes", x.count(10), 4);
        check.same("9: move all", x.move(2, 3), 99);
        check.same("9: move none", x.move(2, 1), 0);
        check.text("9: weights", Check.joints(x, 1), "0 11 0 99");
        check.text("9: hangers stay", Check.joints(x, 2), "0 7 0 0");
        x.undo();
        x.undo();
        check.text("9: undone", Check.joints(x, 1), "0 11 99 0");
        for (int joint : FAR) {
            check.refuses("9: move from " + joint, x, INDEX, () -> x.move(joint, 1));
            check.refuses("9: move to " + joint, x, INDEX, () -> x.move(1, joint));
            check.refuses("9: move none to itself " + joint, x, INDEX, () -> x.move(joint, joint));
        }
        for (int joint = 0; joint <= 3; joint++) {
            int same = joint;
            check.refuses("9: move to itself " + joint, x, ARGUMENT, () -> x.move(same, same));
        }
    }

    private static void moveAtWalls(Check check) {
        HangingChain x = Check.shaped("=[30]=[40]");
        check.same("9: move to the joint 0", x.move(1, 0), 30);
        check.same("9: move from the last one", x.move(2, 1), 40);
        check.text("9: weights", Check.joints(x, 1), "30 40 0");
        check.same("9: load", x.count(2), 42);
    }

    private static void set(Check check) {
        HangingChain x = new HangingChain();
        int[] least = {0, -40, 0, 1};
        int[] most = {20, 40, 20, 999};
        int[] first = {1, -2, 1, 60};
        for (int k = 0; k < 4; k++) {
            int setting = k;
            check.same("10: set " + k, x.set(k, least[k]), first[k] + 100);
            check.same("10: set " + k, x.set(k, most[k]), least[k] + 100);
            check.same("10: setting " + k, x.setting(k), most[k] + 100);
            for (int value : new int[] {Integer.MIN_VALUE, least[k] - 1, most[k] + 1, Integer.MAX_VALUE}) {
                check.refuses("10: set " + k + " to " + value, x, ARGUMENT, () -> x.set(setting, value));
            }
        }
        for (int setting : FAR) {
            check.refuses("10: set " + setting, x, INDEX, () -> x.set(setting, 1));
            check.refuses("10: set " + setting + " to 1000", x, INDEX, () -> x.set(setting, 1000));
        }
        check.same("10: saved", x.count(10), 6);
        x.set(3, 999);
        x.undo();
        x.undo();
        check.same("10: undone", x.setting(3), 101);
    }
}
