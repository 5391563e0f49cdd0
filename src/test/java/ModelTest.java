/** Runs of calls, the same ones in each run of this test, compared with the model. */
public final class ModelTest {
    private static final int RUNS = 100;
    private static final int MOST_CALLS = 512;
    /** No change and no comparison together make more calls than this. */
    private static final int MOST_AT_ONCE = 60;
    private static final String CODES = "==^^vv22[[]]123450";

    private final Check check = new Check();
    private long seed;
    private HangingChain x;
    private Model model;
    private int run;
    private int calls;

    public static void main(String[] args) {
        ModelTest test = new ModelTest();
        for (int run = 0; run < RUNS && test.check.wrong() == 0; run++) {
            test.run = run;
            test.oneRun();
        }
        test.check.end();
    }

    private int any(int least, int most) {
        seed = seed * 6364136223846793005L + 1442695040888963407L;
        return least + (int) Long.remainderUnsigned(seed >>> 33, most - least + 1);
    }

    private void oneRun() {
        seed = 1000003L * (run + 1);
        x = new HangingChain();
        model = new Model();
        calls = 0;
        for (int k = 0; calls + MOST_AT_ONCE <= MOST_CALLS && check.wrong() == 0; k++) {
            change();
            if (k % 8 == 7) {
                compareLooks();
            } else if (k % 8 == 3) {
                same("digest", x.digest(), digest());
            } else {
                same("count 5", x.count(5), model.count(5));
                same("count 9", x.count(9), model.count(9));
                same("count 10", x.count(10), model.count(10));
            }
        }
        if (calls > MOST_CALLS) {
            check.tell("run " + run + " has more calls than an object is used for");
        }
    }

    private void same(String call, long got, long due) {
        calls++;
        check.same("run " + run + ": " + call, got, due);
    }

    private void refuses(String call, Class<? extends Exception> due, Runnable work) {
        // The digests ahead of it and behind it are calls, too.
        calls += 3;
        check.refuses("run " + run + ": " + call, x, due, work);
    }

    private void change() {
        int n = model.n();
        int joint = any(0, n);
        switch (any(0, 13)) {
            case 0: case 1: case 2:
                link();
                break;
            case 3:
                cut(any(0, n - 1));
                break;
            case 4:
                bend(any(0, n - 1), any(-2, 2));
                break;
            case 5:
                model.save();
                same("turn", x.turn(), model.turn());
                break;
            case 6: case 7:
                weight(joint, any(0, 99));
                break;
            case 8:
                hanger(joint, any(0, 99));
                break;
            case 9:
                prop(joint, any(0, 99));
                break;
            case 10:
                move(joint, any(0, n));
                break;
            case 11:
                set(any(0, 3));
                break;
            case 12:
                texts();
                break;
            default:
                undo();
                break;
        }
    }

    private void link() {
        if (model.n() < 20) {
            int step = any(-2, 2);
            model.save();
            same("link", x.link(step), model.link(step));
        } else {
            refuses("link", IllegalStateException.class, () -> x.link(0));
        }
    }

    private void cut(int link) {
        if (model.n() > 1) {
            model.save();
            same("cut", x.cut(link), model.cut(link));
        } else {
            refuses("cut", IllegalStateException.class, () -> x.cut(link));
        }
    }

    private void bend(int link, int step) {
        model.save();
        same("bend", x.bend(link, step), model.steps.set(link, step) + 2);
    }

    private void weight(int joint, int weight) {
        model.save();
        same("weight", x.weight(joint, weight), model.joints.get(joint).weight);
        model.joints.get(joint).weight = weight;
    }

    private void hanger(int joint, int holds) {
        model.save();
        same("hanger", x.hanger(joint, holds), model.joints.get(joint).hanger);
        model.joints.get(joint).hanger = holds;
    }

    private void prop(int joint, int holds) {
        model.save();
        same("prop", x.prop(joint, holds), model.joints.get(joint).prop);
        model.joints.get(joint).prop = holds;
    }

    private void move(int joint, int to) {
        if (joint == to) {
            refuses("move", IllegalArgumentException.class, () -> x.move(joint, to));
        } else {
            model.save();
            same("move", x.move(joint, to), model.move(joint, to));
        }
    }

    private void set(int setting) {
        int[] least = {0, -15, 0, 1};
        int[] most = {20, 15, 20, 999};
        int value = any(least[setting], setting == 3 && any(0, 1) == 0 ? 200 : most[setting]);
        model.save();
        same("set", x.set(setting, value), model.settings[setting] + 100);
        model.settings[setting] = value;
    }

    private void undo() {
        if (model.saved() == 0) {
            refuses("undo", IllegalStateException.class, x::undo);
        }
        for (int k = any(1, 6); k > 0 && model.saved() > 0; k--) {
            same("undo", x.undo(), model.undo());
        }
    }

    private void texts() {
        if (any(0, 2) == 0) {
            same("clearBuffer", x.clearBuffer(), model.buffer.length());
            model.buffer = "";
        }
        boolean right = any(0, 2) > 0;
        for (int k = any(1, 20); k > 0 && model.buffer.length() < 60; k--) {
            char code = CODES.charAt(any(0, CODES.length() - 1));
            // Mostly right texts, or else hardly any would be long.
            String before = model.buffer;
            model.buffer = before + code;
            if (right && model.firstError() < model.buffer.length()) {
                model.buffer = before;
            } else {
                same("append", x.append(code), model.buffer.length());
            }
        }
        same("firstError of " + model.buffer, x.firstError(), model.firstError());
        if (!model.isShape()) {
            refuses("shape of " + model.buffer, IllegalArgumentException.class, x::shape);
        } else if (any(0, 1) == 0) {
            model.save();
            same("shape", x.shape(), model.shape());
        }
    }

    private void compareLooks() {
        for (int what = 0; what <= 10; what++) {
            same("count " + what, x.count(what), model.count(what));
        }
        int link = any(0, model.n() - 1);
        int joint = any(0, model.n());
        for (int what = 0; what <= 2; what++) {
            same("linkOf " + what, x.linkOf(link, what), model.linkOf(link, what));
        }
        for (int what = 0; what <= 7; what++) {
            same("joint " + what, x.joint(joint, what), model.joint(joint, what));
        }
        int amount = any(0, 99);
        same("ifWeight", x.ifWeight(joint, amount), model.ifWeight(joint, amount));
        same("bestHanger", x.bestHanger(amount), model.bestHanger(amount));
        same("bestStep", x.bestStep(link), model.bestStep(link));
        same("bestMove", x.bestMove(joint), model.bestMove(joint));
        same("mostWeight", x.mostWeight(joint), model.mostWeight(joint));
        calls++;
        check.same("run " + run + ": evenness", x.evenness(), model.evenness());
    }

    private long digest() {
        long hash = 3119;
        for (int what = 0; what <= 10; what++) {
            hash = 31 * hash + model.count(what);
        }
        for (int setting = 0; setting <= 3; setting++) {
            hash = 31 * hash + model.settings[setting] + 100;
        }
        for (int link = 0; link < model.n(); link++) {
            for (int what = 0; what <= 2; what++) {
                hash = 31 * hash + model.linkOf(link, what);
            }
            hash = 31 * hash + model.bestStep(link);
        }
        for (int joint = 0; joint <= model.n(); joint++) {
            for (int what = 0; what <= 7; what++) {
                hash = 31 * hash + model.joint(joint, what);
            }
            hash = 31 * hash + model.ifWeight(joint, 20);
            hash = 31 * hash + model.mostWeight(joint);
            hash = 31 * hash + model.bestMove(joint);
        }
        hash = 31 * hash + model.bestHanger(15);
        hash = 31 * hash + Double.doubleToLongBits(model.evenness());
        hash = 31 * hash + model.buffer.length();
        for (int k = 0; k < model.buffer.length(); k++) {
            hash = 31 * hash + model.buffer.charAt(k);
        }
        return hash;
    }
}
