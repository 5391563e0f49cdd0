/** Promises 20 to 26; ModelTest tries them on many more chains. */
public final class WouldBeTest {
    private static final Class<IndexOutOfBoundsException> INDEX = IndexOutOfBoundsException.class;
    private static final Class<IllegalArgumentException> ARGUMENT = IllegalArgumentException.class;
    private static final String SHAPE = "v[10]v[20]^[30]^";

    public static void main(String[] args) {
        Check check = new Check();
        ifWeight(check);
        mostWeight(check);
        bestMove(check);
        bestHanger(check);
        bestStep(check);
        evenness(check);
        digest(check);
        wrongArguments(check);
        check.end();
    }

    private static void ifWeight(Check check) {
        HangingChain x = Check.shaped(SHAPE);
        long before = x.digest();
        check.same("20: ifWeight(1, 50)", x.ifWeight(1, 50), 59);
        check.same("20: ifWeight(1, 10), as it is", x.ifWeight(1, 10), 39);
        check.same("20: ifWeight(3, 0)", x.ifWeight(3, 0), 22);
        check.same("20: ifWeight at the joint 0", x.ifWeight(0, 99), 39);
        check.same("20: ifWeight at the last joint", x.ifWeight(4, 99), 39);
        check.same("20: nothing is changed", x.digest(), before);
    }

    private static void mostWeight(Check check) {
        HangingChain x = Check.shaped(SHAPE);
        long before = x.digest();
        check.same("21: mostWeight(1)", x.mostWeight(1), 51);
        check.same("21: mostWeight at a wall", x.mostWeight(0), 99);
        check.same("21: nothing is changed", x.digest(), before);
        x.set(3, 38);
        check.same("21: none at a wall of what breaks", x.mostWeight(4), -1);
        check.same("21: mostWeight(3), less than it has", x.mostWeight(3), 29);
        x.set(3, 1);
        check.same("21: none", x.mostWeight(2), -1);
        x.set(3, 999);
        check.same("21: 99", x.mostWeight(2), 99);
        HangingChain none = Check.shaped("=[50]=");
        none.set(3, 1);
        check.same("21: just 0", none.mostWeight(1), 0);
        none.set(0, 0);
        check.same("21: two", none.mostWeight(1), 2);
        none.hanger(1, 40);
        check.same("21: two above the hanger", none.mostWeight(1), 42);
    }

    private static void bestMove(Check check) {
        HangingChain x = Check.shaped(SHAPE);
        long before = x.digest();
        check.same("22: bestMove(1), of two the lowest", x.bestMove(1), 0);
        check.same("22: bestMove without weight", x.bestMove(0), -1);
        check.same("22: nothing is changed", x.digest(), before);
        x.hanger(3, 99);
        check.same("22: bestMove(1) with a hanger", x.bestMove(1), 0);
        x.weight(0, 99);
        check.same("22: bestMove(1), no room at 0", x.bestMove(1), 3);
        check.same("22: bestMove from a wall to the other one", x.bestMove(0), 4);
        check.same("22: bestMove of one link", Check.shaped("=[5]").bestMove(1), 0);
    }

    private static void bestHanger(Check check) {
        HangingChain x = Check.shaped(SHAPE);
        long before = x.digest();
        check.same("23: bestHanger(10)", x.bestHanger(10), 3);
        check.same("23: bestHanger(0), all alike", x.bestHanger(0), 1);
        check.same("23: nothing is changed", x.digest(), before);
        check.same("23: without joints between", new HangingChain().bestHanger(99), -1);
        check.same("23: one joint between", Check.shaped("==").bestHanger(99), 1);
        HangingChain held = Check.shaped("=[98]=[99]=");
        held.set(0, 20);
        held.hanger(2, 98);
        check.same("23: at most 99", held.bestHanger(2), 1);
    }

    private static void bestStep(Check check) {
        HangingChain one = new HangingChain();
        check.same("24: level", one.bestStep(0), 2);
        one.set(2, 0);
        check.same("24: of several the least", one.bestStep(0), 0);
        HangingChain x = Check.shaped("=[50]=");
        x.prop(1, 99);
        long before = x.digest();
        check.same("24: down to the prop", x.bestStep(0), 0);
        check.same("24: behind the prop", x.bestStep(1), 2);
        check.same("24: nothing is changed", x.digest(), before);
        x.set(1, -1);
        check.same("24: down by one is enough", x.bestStep(0), 1);
        HangingChain up = Check.shaped("^2[50]=[50]=");
        check.same("24: another link is the greatest", up.bestStep(2), 0);
        HangingChain relieved = Check.shaped("=[30]^[15]v2[15]=");
        relieved.set(0, 0);
        relieved.set(1, -1);
        relieved.set(2, 18);
        relieved.prop(3, 99);
        check.same("24: up by two, off a prop", relieved.bestStep(1), 4);
    }

    private static void evenness(Check check) {
        HangingChain x = Check.shaped(SHAPE);
        check.same("25: evenness", x.evenness(), 28.0 / 38.0);
        x.turn();
        check.same("25: evenness, turned", x.evenness(), (double) x.count(4) / x.count(3));
        x.set(0, 0);
        Check.type(x, "==");
        x.shape();
        check.same("25: nothing borne", x.evenness(), 1.0);
        x.weight(1, 1);
        check.same("25: one bears nothing", x.evenness(), 0.0);
        x.weight(1, 2);
        check.same("25: both alike", x.evenness(), 1.0);
    }

    private static void digest(Check check) {
        HangingChain x = Check.shaped(SHAPE);
        Check.type(x, "=~");
        x.hanger(2, 3);
        x.prop(2, 4);
        check.same("26: digest", x.digest(), byTheFace(x, "=~"));
        check.same("26: digest again", x.digest(), byTheFace(x, "=~"));
        HangingChain fresh = new HangingChain();
        check.same("26: digest of a new object", fresh.digest(), byTheFace(fresh, ""));
        fresh.set(0, 0);
        fresh.link(0);
        fresh.weight(1, 1);
        check.same("26: digest with evenness 0", fresh.digest(), byTheFace(fresh, ""));
        for (int weight = 0; weight <= 99; weight++) {
            HangingChain one = Check.shaped(SHAPE);
            one.weight(1, weight);
            check.same("26: digest with weight " + weight, one.digest(), byTheFace(one, ""));
        }
    }

    /** The digest as the document lists it, from what the other calls answer. */
    static long byTheFace(HangingChain x, String buffer) {
        long hash = 3119;
        for (int what = 0; what <= 10; what++) {
            hash = 31 * hash + x.count(what);
        }
        for (int setting = 0; setting <= 3; setting++) {
            hash = 31 * hash + x.setting(setting);
        }
        for (int link = 0; link < x.count(0); link++) {
            for (int what = 0; what <= 2; what++) {
                hash = 31 * hash + x.linkOf(link, what);
            }
            hash = 31 * hash + x.bestStep(link);
        }
        for (int joint = 0; joint <= x.count(0); joint++) {
            for (int what = 0; what <= 7; what++) {
                hash = 31 * hash + x.joint(joint, what);
            }
            hash = 31 * hash + x.ifWeight(joint, 20);
            hash = 31 * hash + x.mostWeight(joint);
            hash = 31 * hash + x.bestMove(joint);
        }
        hash = 31 * hash + x.bestHanger(15);
        hash = 31 * hash + Double.doubleToLongBits(x.evenness());
        hash = 31 * hash + buffer.length();
        for (int k = 0; k < buffer.length(); k++) {
            hash = 31 * hash + buffer.charAt(k);
        }
        return hash;
    }

    private static void wrongArguments(Check check) {
        HangingChain x = Check.shaped(SHAPE);
        for (int far : new int[] {Integer.MIN_VALUE, -1, 100, Integer.MAX_VALUE}) {
            check.refuses("20: ifWeight at " + far, x, INDEX, () -> x.ifWeight(far, 0));
            check.refuses("20: ifWeight at " + far + " twice", x, INDEX, () -> x.ifWeight(far, far));
            check.refuses("20: ifWeight(1, " + far, x, ARGUMENT, () -> x.ifWeight(1, far));
            check.refuses("21: mostWeight " + far, x, INDEX, () -> x.mostWeight(far));
            check.refuses("22: bestMove " + far, x, INDEX, () -> x.bestMove(far));
            check.refuses("23: bestHanger " + far, x, ARGUMENT, () -> x.bestHanger(far));
            check.refuses("24: bestStep " + far, x, INDEX, () -> x.bestStep(far));
        }
        check.refuses("20: ifWeight(5, 0)", x, INDEX, () -> x.ifWeight(5, 0));
        check.refuses("21: mostWeight(5)", x, INDEX, () -> x.mostWeight(5));
        check.refuses("22: bestMove(5)", x, INDEX, () -> x.bestMove(5));
        check.refuses("24: bestStep(4)", x, INDEX, () -> x.bestStep(4));
        check.same("20 to 26: nothing is saved", x.count(10), 1);
    }
}
