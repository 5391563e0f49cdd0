/** Promises 1 to 5. */
public final class LinksTest {
    private static final Class<IndexOutOfBoundsException> INDEX = IndexOutOfBoundsException.class;
    private static final Class<IllegalArgumentException> ARGUMENT = IllegalArgumentException.class;
    private static final Class<IllegalStateException> STATE = IllegalStateException.class;
    private static final int[] FAR = {Integer.MIN_VALUE, -100, -1, 100, Integer.MAX_VALUE};

    public static void main(String[] args) {
        Check check = new Check();
        newObject(check);
        link(check);
        linkKeepsAndClears(check);
        cut(check);
        bend(check);
        turn(check);
        check.end();
    }

    private static void newObject(Check check) {
        HangingChain x = new HangingChain();
        check.text("1: steps", Check.steps(x), "0");
        for (int what = 1; what < 8; what++) {
            check.text("1: joints, " + what, Check.joints(x, what), "0 0");
        }
        check.text("1: heights", Check.joints(x, 0), "100 100");
        int[] settings = {101, 98, 101, 160};
        for (int k = 0; k < settings.length; k++) {
            check.same("1: setting " + k, x.setting(k), settings[k]);
        }
        int[] counts = {1, 0, 0, 0, 0, 0, 0, 1, 0, 100, 0};
        for (int k = 0; k < counts.length; k++) {
            check.same("1: count " + k, x.count(k), counts[k]);
        }
        check.same("1: buffer", x.clearBuffer(), 0);
    }

    private static void link(Check check) {
        HangingChain x = new HangingChain();
        int[] steps = {-2, -1, 0, 1, 2};
        for (int k = 0; k < steps.length; k++) {
            check.same("2: link", x.link(steps[k]), k + 2);
        }
        check.text("2: steps", Check.steps(x), "0 -2 -1 0 1 2");
        check.same("2: saved", x.count(10), 5);
        for (int step : new int[] {-3, 3, Integer.MIN_VALUE, Integer.MAX_VALUE}) {
            check.refuses("2: link " + step, x, ARGUMENT, () -> x.link(step));
        }
        for (int k = 7; k <= 20; k++) {
            check.same("2: link", x.link(1), k);
        }
        check.refuses("2: link 21", x, STATE, () -> x.link(0));
        check.refuses("2: link 21 with a wrong step", x, ARGUMENT, () -> x.link(3));
        x.undo();
        check.same("2: undone", x.count(0), 19);
    }

    private static void linkKeepsAndClears(Check check) {
        HangingChain x = Check.shaped("=[1]=[2]=[3]");
        for (int joint = 0; joint <= 3; joint++) {
            x.hanger(joint, 10 + joint);
            x.prop(joint, 20 + joint);
        }
        x.cut(2);
        x.link(-1);
        check.text("2: weights", Check.joints(x, 1), "0 1 2 0");
        check.text("2: hangers", Check.joints(x, 2), "10 11 12 0");
        check.text("2: props", Check.joints(x, 3), "20 21 22 0");
        x.cut(0);
        x.link(2);
        check.text("2: weights behind cut(0)", Check.joints(x, 1), "0 2 0 0");
        check.text("2: steps behind cut(0)", Check.steps(x), "0 -1 2");
    }

    private static void cut(Check check) {
        HangingChain x = Check.shaped("v2[1]v[2]=[3]^[4]^2[5]");
        for (int joint = 0; joint <= 5; joint++) {
            x.hanger(joint, 10 + joint);
        }
        for (int joint = 0; joint <= 5; joint++) {
            x.prop(joint, 20 + joint);
        }
        check.same("3: cut", x.cut(1), 4);
        check.text("3: steps", Check.steps(x), "-2 0 1 2");
        check.text("3: weights", Check.joints(x, 1), "0 1 3 4 5");
        check.text("3: hangers", Check.joints(x, 2), "10 11 13 14 15");
        check.text("3: props", Check.joints(x, 3), "20 21 23 24 25");
        check.same("3: cut the last", x.cut(3), 3);
        check.text("3: weights, the last cut", Check.joints(x, 1), "0 1 3 4");
        check.same("3: cut the first", x.cut(0), 2);
        check.text("3: steps, the first cut", Check.steps(x), "0 1");
        check.text("3: hangers, the first cut", Check.joints(x, 2), "10 13 14");
        check.refuses("3: cut(2) of 2", x, INDEX, () -> x.cut(2));
        x.undo();
        check.text("3: undone", Check.joints(x, 3), "20 21 23 24");
        x.cut(0);
        x.cut(1);
        check.refuses("3: cut the only one", x, STATE, () -> x.cut(0));
        for (int link : FAR) {
            check.refuses("3: cut " + link, x, INDEX, () -> x.cut(link));
        }
        check.refuses("3: cut(1) of 1", x, INDEX, () -> x.cut(1));
    }

    private static void bend(Check check) {
        HangingChain x = Check.shaped("v2=^2");
        check.same("4: bend", x.bend(0, 1), 0);
        check.same("4: bend", x.bend(1, -2), 2);
        check.same("4: bend", x.bend(2, 2), 4);
        check.text("4: steps", Check.steps(x), "1 -2 2");
        check.same("4: saved, also if nothing changes", x.count(10), 4);
        for (int step : new int[] {-3, 3, Integer.MIN_VALUE, Integer.MAX_VALUE}) {
            check.refuses("4: bend to " + step, x, ARGUMENT, () -> x.bend(2, step));
            check.refuses("4: bend no link to " + step, x, INDEX, () -> x.bend(3, step));
        }
        for (int link : FAR) {
            check.refuses("4: bend " + link, x, INDEX, () -> x.bend(link, 0));
        }
        check.refuses("4: bend(3, 0) of 3", x, INDEX, () -> x.bend(3, 0));
        x.undo();
        x.undo();
        check.text("4: undone", Check.steps(x), "1 0 2");
    }

    private static void turn(Check check) {
        HangingChain x = Check.shaped("v2[1]v[2]=[3]^[4]");
        for (int joint = 0; joint <= 4; joint++) {
            x.hanger(joint, 10 + joint);
        }
        for (int joint = 0; joint <= 4; joint++) {
            x.prop(joint, 20 + joint);
        }
        x.weight(0, 9);
        check.same("5: turn", x.turn(), 102);
        check.text("5: steps", Check.steps(x), "-1 0 1 2");
        check.text("5: heights", Check.joints(x, 0), "100 99 99 100 102");
        check.text("5: weights", Check.joints(x, 1), "4 3 2 1 9");
        check.text("5: hangers", Check.joints(x, 2), "14 13 12 11 10");
        check.text("5: props", Check.joints(x, 3), "24 23 22 21 20");
        x.undo();
        check.text("5: undone", Check.joints(x, 1), "9 1 2 3 4");
        check.same("5: turn", x.turn(), 102);
        check.same("5: turn back", x.turn(), 98);
        check.text("5: steps, turned back", Check.steps(x), "-2 -1 0 1");
        HangingChain steep = Check.shaped("v2v2v2v2v2v2v2v2v2v2v2v2v2v2v2v2v2v2v2v2");
        check.same("5: turn the steepest", steep.turn(), 140);
        check.same("5: turn it back", steep.turn(), 60);
        check.same("5: turn one link", new HangingChain().turn(), 100);
    }
}
