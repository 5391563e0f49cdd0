/** Promises 16 to 19. */
public final class LooksTest {
    private static final Class<IndexOutOfBoundsException> INDEX = IndexOutOfBoundsException.class;
    private static final Class<IllegalArgumentException> ARGUMENT = IllegalArgumentException.class;
    private static final String SHAPE = "v[10]v[20]^[30]^";

    public static void main(String[] args) {
        Check check = new Check();
        linkOf(check);
        joint(check);
        count(check);
        lowest(check);
        setting(check);
        firstLooks(check);
        wrongArguments(check);
        check.end();
    }

    private static void linkOf(Check check) {
        HangingChain x = Check.shaped(SHAPE);
        check.text("16: steps", Check.steps(x), "-1 -1 1 1");
        check.text("16: forces", Check.forces(x), "29 17 7 39");
        x.set(3, 29);
        check.text("16: breaks", breaks(x), "0 0 0 1");
        x.set(3, 28);
        check.text("16: breaks", breaks(x), "1 0 0 1");
        x.set(2, 20);
        check.text("16: forces with 20 by a step", Check.forces(x), "48 36 26 58");
        x.bend(0, -2);
        check.text("16: forces, bent", Check.forces(x), "68 36 26 58");
        x.bend(0, 0);
        check.text("16: forces, level", Check.forces(x), "28 36 26 58");
        x.set(0, 0);
        check.text("16: forces without links' weight", Check.forces(x), "26 36 24 54");
    }

    private static String breaks(HangingChain x) {
        StringBuilder told = new StringBuilder();
        for (int k = 0; k < x.count(0); k++) {
            told.append(x.linkOf(k, 2)).append(' ');
        }
        return told.toString().trim();
    }

    private static void joint(Check check) {
        HangingChain x = Check.shaped(SHAPE);
        for (int joint = 0; joint <= 4; joint++) {
            x.weight(joint, 10 * joint + 5);
            x.hanger(joint, 7 * joint);
            x.prop(joint, 4);
        }
        check.text("17: heights", Check.joints(x, 0), "100 99 98 99 100");
        check.text("17: weights", Check.joints(x, 1), "5 15 25 35 45");
        check.text("17: hangers", Check.joints(x, 2), "0 7 14 21 28");
        check.text("17: props", Check.joints(x, 3), "4 4 4 4 4");
        check.text("17: burdens", Check.joints(x, 4), "0 17 27 37 0");
        check.text("17: hangers take", Check.joints(x, 5), "0 7 14 21 0");
        check.text("17: props take", Check.joints(x, 6), "0 0 4 0 0");
        check.text("17: loads", Check.joints(x, 7), "0 10 9 16 0");
        x.set(1, -1);
        check.text("17: props take, reaching more", Check.joints(x, 6), "0 4 4 4 0");
        x.set(1, 40);
        x.prop(2, 99);
        x.hanger(1, 99);
        check.text("17: hangers take all", Check.joints(x, 5), "0 17 14 21 0");
        check.text("17: props take the rest", Check.joints(x, 6), "0 0 13 4 0");
        check.text("17: loads", Check.joints(x, 7), "0 0 0 12 0");
        x.set(0, 20);
        check.text("17: burdens with heavy links", Check.joints(x, 4), "0 55 65 75 0");
        x.set(1, -3);
        check.text("17: no prop reaches", Check.joints(x, 6), "0 0 0 0 0");
    }

    private static void count(Check check) {
        HangingChain x = Check.shaped(SHAPE);
        x.weight(0, 3);
        x.weight(4, 4);
        int[] due = {4, 67, 66, 28, 38, 39, 0, 1, 2, 98, 3};
        for (int what = 0; what < due.length; what++) {
            check.same("18: count " + what, x.count(what), due[what]);
        }
        x.set(3, 28);
        check.same("18: links that break", x.count(6), 2);
        check.same("18: it does not hold", x.count(7), 0);
        x.set(3, 39);
        check.same("18: it just holds", x.count(7), 1);
        check.same("18: none breaks", x.count(6), 0);
        check.same("18: saved", x.count(10), 5);
        HangingChain down = Check.shaped("=[1]=");
        check.same("18: ahead, rounded", down.count(3), 2);
        check.same("18: behind, rounded", down.count(4), 1);
    }

    private static void lowest(Check check) {
        check.same("18: lowest of level ones", Check.shaped("===").count(8), 0);
        check.same("18: lowest, rising", Check.shaped("^^2").count(8), 0);
        check.same("18: its height, rising", Check.shaped("^^2").count(9), 100);
        check.same("18: lowest, going down", Check.shaped("v2v2").count(8), 2);
        check.same("18: its height, going down", Check.shaped("v2v2").count(9), 96);
        check.same("18: lowest of two", Check.shaped("v2^v^2").count(8), 1);
        check.same("18: the lower one of two", Check.shaped("v^v2").count(8), 3);
    }

    private static void setting(Check check) {
        HangingChain x = new HangingChain();
        x.set(0, 11);
        x.set(1, -12);
        x.set(2, 13);
        x.set(3, 14);
        int[] due = {111, 88, 113, 114};
        for (int k = 0; k < due.length; k++) {
            check.same("19: setting " + k, x.setting(k), due[k]);
        }
    }

    /** Each look as the first call behind a change, where nothing else was looked at. */
    private static void firstLooks(Check check) {
        check.same("16: force, looked at first", Check.shaped(SHAPE).linkOf(3, 1), 39);
        check.same("17: height, looked at first", Check.shaped(SHAPE).joint(2, 0), 98);
        check.same("17: load, looked at first", Check.shaped(SHAPE).joint(2, 7), 22);
        check.same("18: load, looked at first", Check.shaped(SHAPE).count(2), 66);
        check.same("5: turn, looked at first", Check.shaped("v2").turn(), 102);
        check.same("25: evenness, looked at first", Check.shaped(SHAPE).evenness(), 28.0 / 38.0);
        HangingChain x = Check.shaped(SHAPE);
        x.bestStep(0);
        check.same("17: height behind bestStep", x.joint(2, 0), 98);
        x.mostWeight(1);
        check.same("18: greatest force behind mostWeight", x.count(5), 39);
        x.ifWeight(1, 99);
        check.same("16: force behind ifWeight", x.linkOf(0, 1), 29);
        x.bestMove(3);
        check.same("25: evenness behind bestMove", x.evenness(), 28.0 / 38.0);
        x.bestHanger(99);
        check.same("17: load behind bestHanger", x.joint(3, 7), 32);
    }

    private static void wrongArguments(Check check) {
        HangingChain x = Check.shaped(SHAPE);
        for (int far : new int[] {Integer.MIN_VALUE, -1, 11, Integer.MAX_VALUE}) {
            check.refuses("16: linkOf " + far, x, INDEX, () -> x.linkOf(far, 0));
            check.refuses("16: linkOf " + far + " twice", x, INDEX, () -> x.linkOf(far, far));
            check.refuses("16: linkOf(0, " + far, x, ARGUMENT, () -> x.linkOf(0, far));
            check.refuses("17: joint " + far, x, INDEX, () -> x.joint(far, 0));
            check.refuses("17: joint " + far + " twice", x, INDEX, () -> x.joint(far, far));
            check.refuses("17: joint(0, " + far, x, ARGUMENT, () -> x.joint(0, far));
            check.refuses("18: count " + far, x, ARGUMENT, () -> x.count(far));
            check.refuses("19: setting " + far, x, INDEX, () -> x.setting(far));
        }
        check.refuses("16: linkOf(4, 0)", x, INDEX, () -> x.linkOf(4, 0));
        check.refuses("16: linkOf(3, 3)", x, ARGUMENT, () -> x.linkOf(3, 3));
        check.refuses("17: joint(5, 0)", x, INDEX, () -> x.joint(5, 0));
        check.refuses("17: joint(4, 8)", x, ARGUMENT, () -> x.joint(4, 8));
        check.refuses("19: setting(4)", x, INDEX, () -> x.setting(4));
        check.same("16 to 19: nothing is saved", x.count(10), 1);
    }
}
