import java.util.function.Supplier;

/** Trials of the promises 6 to 10. */
final class JointsSentences {
    private static final Class<IndexOutOfBoundsException> INDEX = IndexOutOfBoundsException.class;
    private static final Class<IllegalArgumentException> ARGUMENT = IllegalArgumentException.class;
    private static final int[] NO_AMOUNTS = {Integer.MIN_VALUE, -99, -1, 100, 199, Integer.MAX_VALUE};
    private static final int[] LEAST = {0, -40, 0, 1};
    private static final int[] MOST = {20, 40, 20, 999};
    private static final int[] FIRST = {1, -2, 1, 60};

    /** One of weight, hanger and prop. */
    private interface Change {
        int of(HangingChain x, int joint, int amount);
    }

    static void tell(Sentences s) {
        s.under("Promise 6");
        s.hold("Changes the weight of a joint.", check -> changes(check, 1, HangingChain::weight));
        s.hold("- `weight`: 0 to 99", check -> amounts(check, 1, HangingChain::weight));
        s.hold("Returns the previous weight.", check -> previous(check, HangingChain::weight));
        s.hold("Throws `IllegalArgumentException` if weight is out of range",
            check -> noAmount(check, HangingChain::weight));
        each(s, HangingChain::weight);
        s.under("Promise 7");
        s.hold("Changes what the hanger of a joint holds.", check -> changes(check, 2, HangingChain::hanger));
        s.hold("- `holds`: 0 to 99", check -> amounts(check, 2, HangingChain::hanger));
        s.hold("Returns what it held.", check -> previous(check, HangingChain::hanger));
        s.hold("Throws `IllegalArgumentException` if holds is out of range",
            check -> noAmount(check, HangingChain::hanger));
        each(s, HangingChain::hanger);
        s.under("Promise 8");
        s.hold("Changes what the prop of a joint holds.", check -> changes(check, 3, HangingChain::prop));
        s.hold("- `holds`: 0 to 99", check -> amounts(check, 3, HangingChain::prop));
        s.hold("Returns what it held.", check -> previous(check, HangingChain::prop));
        s.hold("Throws `IllegalArgumentException` if holds is out of range",
            check -> noAmount(check, HangingChain::prop));
        each(s, HangingChain::prop);
        move(s);
        set(s);
    }

    /** What the promises 6, 7 and 8 say alike. */
    private static void each(Sentences s, Change change) {
        s.hold("Undoable.", check -> undone(check, change));
        s.hold("- `joint`: its number", check -> firstAndLast(check, change));
        s.hold("Throws `IndexOutOfBoundsException` if there is no such joint", check -> noJoint(check, change));
    }

    private static void move(Sentences s) {
        s.under("Promise 9");
        s.hold("as far as that can have it (99)", JointsSentences::moveAsFarAs99);
        s.hold("the rest stays", JointsSentences::restStays);
        s.hold("Moves the weight of a joint to another one", JointsSentences::moveTheWeightAlone);
        s.hold("Undoable.", JointsSentences::moveIsUndone);
        s.hold("- `joint`: its number", JointsSentences::moveFromTheWalls);
        s.hold("- `to`: the number of the other one", JointsSentences::moveToTheWalls);
        s.hold("Returns how much is moved.", JointsSentences::moveTellsHowMuch);
        s.hold("Throws `IndexOutOfBoundsException` if there is no such joint", JointsSentences::moveNoJoint);
        s.hold("Throws `IllegalArgumentException` if both are the same", JointsSentences::moveToTheSame);
    }

    private static void set(Sentences s) {
        s.under("Promise 10");
        s.hold("Changes a setting.", JointsSentences::setEach);
        s.hold("Undoable.", JointsSentences::setIsUndone);
        s.hold("- `setting`: 0 to 3", JointsSentences::setFirstAndLast);
        s.hold("- `value`: the new value", JointsSentences::setValues);
        s.hold("Returns the previous value, with 100 more.", JointsSentences::setTellsPrevious);
        s.hold("Throws `IndexOutOfBoundsException` if there is no such setting", JointsSentences::setNoSetting);
        s.hold("Throws `IllegalArgumentException` if value is out of range", JointsSentences::setNoValue);
    }

    private static void changes(Check check, int what, Change change) {
        HangingChain x = Check.shaped("===");
        for (int joint = 0; joint <= 3; joint++) {
            change.of(x, joint, 40 + joint);
        }
        change.of(x, 2, 7);
        for (int other = 1; other <= 3; other++) {
            String due = other == what ? "40 41 7 43" : "0 0 0 0";
            check.text("number " + other, Check.joints(x, other), due);
        }
        check.text("steps", Check.steps(x), "0 0 0");
    }

    private static void amounts(Check check, int what, Change change) {
        HangingChain x = Check.shaped("==");
        for (int amount : new int[] {99, 98, 1, 0}) {
            change.of(x, 1, amount);
            check.same("the joint 1", x.joint(1, what), amount);
        }
    }

    private static void previous(Check check, Change change) {
        HangingChain x = Check.shaped("==");
        check.same("from none", change.of(x, 1, 99), 0);
        check.same("from 99", change.of(x, 1, 99), 99);
        check.same("from 99 again", change.of(x, 1, 1), 99);
        check.same("from 1", change.of(x, 1, 0), 1);
        check.same("from 0", change.of(x, 1, 0), 0);
        check.same("of another joint", change.of(x, 2, 5), 0);
    }

    private static void noAmount(Check check, Change change) {
        HangingChain x = Check.shaped("=[50]=");
        for (int amount : NO_AMOUNTS) {
            for (int one = 0; one <= 2; one++) {
                int joint = one;
                check.refuses(amount + " at " + joint, x, ARGUMENT, () -> change.of(x, joint, amount));
            }
        }
    }

    private static void undone(Check check, Change change) {
        Supplier<HangingChain> maker = () -> Check.shaped("=[50]=");
        check.undoes("at the joint 0", maker, x -> change.of(x, 0, 99));
        check.undoes("at the joint 1", maker, x -> change.of(x, 1, 99));
        check.undoes("at the last joint", maker, x -> change.of(x, 2, 99));
        check.undoes("to the same", maker, x -> change.of(x, 2, 0));
    }

    private static void firstAndLast(Check check, Change change) {
        for (int links : new int[] {1, 2, 20}) {
            HangingChain x = Check.shaped("=".repeat(links));
            check.same("at the joint 0 of " + links, change.of(x, 0, 11), 0);
            check.same("at the last of " + links, change.of(x, links, 12), 0);
            check.same("at the joint 0 again", change.of(x, 0, 0), 11);
            check.same("at the last again", change.of(x, links, 0), 12);
        }
    }

    private static void noJoint(Check check, Change change) {
        for (int links : new int[] {1, 2, 19, 20}) {
            HangingChain x = Check.shaped("=".repeat(links));
            for (int joint : new int[] {Integer.MIN_VALUE, -1, links + 1, 21, Integer.MAX_VALUE}) {
                check.refuses("at " + joint + " of " + links, x, INDEX, () -> change.of(x, joint, 5));
            }
        }
    }

    private static void moveAsFarAs99(Check check) {
        int[] from = {30, 30, 30, 30, 99, 99, 1, 1, 0, 99};
        int[] to = {68, 69, 70, 99, 0, 1, 98, 99, 99, 99};
        int[] moved = {30, 30, 29, 0, 99, 98, 1, 0, 0, 0};
        for (int k = 0; k < from.length; k++) {
            HangingChain x = Check.shaped("===");
            x.weight(1, from[k]);
            x.weight(2, to[k]);
            String call = "move " + from[k] + " to " + to[k];
            check.same(call, x.move(1, 2), moved[k]);
            check.same(call + ", there", x.joint(2, 1), to[k] + moved[k]);
            check.same(call + ", all weights", x.count(1), from[k] + to[k]);
        }
    }

    private static void restStays(Check check) {
        HangingChain x = Check.shaped("=[30]=[70]=");
        x.move(1, 2);
        check.text("weights", Check.joints(x, 1), "0 1 99 0");
        x.move(1, 2);
        check.text("weights, no room", Check.joints(x, 1), "0 1 99 0");
        x.move(2, 1);
        check.text("weights, moved back", Check.joints(x, 1), "0 99 1 0");
    }

    private static void moveTheWeightAlone(Check check) {
        HangingChain x = Check.shaped("=[30]=[5]=");
        x.hanger(1, 7);
        x.prop(1, 8);
        x.move(1, 2);
        check.text("weights", Check.joints(x, 1), "0 0 35 0");
        check.text("hangers", Check.joints(x, 2), "0 7 0 0");
        check.text("props", Check.joints(x, 3), "0 8 0 0");
        x.move(2, 1);
        check.text("weights, moved to the one ahead", Check.joints(x, 1), "0 35 0 0");
    }

    private static void moveIsUndone(Check check) {
        Supplier<HangingChain> maker = () -> Check.shaped("=[30]=[70]=");
        check.undoes("move of a part", maker, x -> x.move(1, 2));
        check.undoes("move of all", maker, x -> x.move(1, 3));
        check.undoes("move of nothing", maker, x -> x.move(3, 1));
    }

    private static void moveFromTheWalls(Check check) {
        HangingChain x = Check.shaped("==[6]");
        x.weight(0, 5);
        check.same("move from the joint 0", x.move(0, 1), 5);
        check.same("move from the last one", x.move(2, 1), 6);
        check.text("weights", Check.joints(x, 1), "0 11 0");
        HangingChain longest = Check.shaped("=".repeat(20) + "[9]");
        check.same("move from the joint 20", longest.move(20, 19), 9);
        check.same("there", longest.joint(19, 1), 9);
    }

    private static void moveToTheWalls(Check check) {
        HangingChain x = Check.shaped("=[6]=");
        check.same("move to the joint 0", x.move(1, 0), 6);
        check.same("move from wall to wall", x.move(0, 2), 6);
        check.text("weights", Check.joints(x, 1), "0 0 6");
        check.same("loads", x.count(2), 2);
        HangingChain one = Check.shaped("=[9]");
        check.same("move of one link", one.move(1, 0), 9);
        check.text("weights of one link", Check.joints(one, 1), "9 0");
    }

    private static void moveTellsHowMuch(Check check) {
        HangingChain x = Check.shaped("=[60]=[60]=");
        check.same("move a part", x.move(1, 2), 39);
        check.same("move nothing, no room", x.move(1, 2), 0);
        check.same("move all", x.move(1, 3), 21);
        check.same("move nothing, no weight", x.move(1, 3), 0);
    }

    private static void moveNoJoint(Check check) {
        for (int links : new int[] {1, 2, 20}) {
            HangingChain x = Check.shaped("=[5]" + "=".repeat(links - 1));
            for (int joint : new int[] {Integer.MIN_VALUE, -1, links + 1, 21, Integer.MAX_VALUE}) {
                check.refuses("move(" + joint + ", 1)", x, INDEX, () -> x.move(joint, 1));
                check.refuses("move(1, " + joint + ")", x, INDEX, () -> x.move(1, joint));
                check.refuses("move(" + joint + ", -2)", x, INDEX, () -> x.move(joint, -2));
            }
        }
    }

    private static void moveToTheSame(Check check) {
        HangingChain x = Check.shaped("=[5]=");
        for (int one = 0; one <= 2; one++) {
            int joint = one;
            check.refuses("move(" + joint + ", " + joint + ")", x, ARGUMENT, () -> x.move(joint, joint));
        }
    }

    private static void setEach(Check check) {
        for (int setting = 0; setting <= 3; setting++) {
            HangingChain x = new HangingChain();
            x.set(setting, 17);
            for (int k = 0; k <= 3; k++) {
                check.same("setting " + k, x.setting(k), k == setting ? 117 : FIRST[k] + 100);
            }
        }
    }

    private static void setIsUndone(Check check) {
        for (int k = 0; k <= 3; k++) {
            int setting = k;
            check.undoes("set " + k, () -> Check.shaped("v[5]v"), x -> x.set(setting, 20));
            check.undoes("set " + k + " to the same", HangingChain::new, x -> x.set(setting, FIRST[setting]));
        }
    }

    private static void setFirstAndLast(Check check) {
        HangingChain x = new HangingChain();
        check.same("set(0, 5)", x.set(0, 5), 101);
        check.same("set(3, 5)", x.set(3, 5), 160);
    }

    private static void setValues(Check check) {
        for (int setting = 0; setting <= 3; setting++) {
            HangingChain x = new HangingChain();
            for (int value : new int[] {LEAST[setting], LEAST[setting] + 1, MOST[setting] - 1, MOST[setting]}) {
                x.set(setting, value);
                check.same("setting " + setting, x.setting(setting), value + 100);
            }
        }
    }

    private static void setTellsPrevious(Check check) {
        for (int setting = 0; setting <= 3; setting++) {
            HangingChain x = new HangingChain();
            check.same("from the first", x.set(setting, LEAST[setting]), FIRST[setting] + 100);
            check.same("from the least", x.set(setting, MOST[setting]), LEAST[setting] + 100);
            check.same("from the greatest", x.set(setting, MOST[setting]), MOST[setting] + 100);
            check.same("from the greatest again", x.set(setting, 5), MOST[setting] + 100);
        }
    }

    private static void setNoSetting(Check check) {
        HangingChain x = new HangingChain();
        for (int setting : new int[] {Integer.MIN_VALUE, -1, 4, 5, Integer.MAX_VALUE}) {
            check.refuses("set(" + setting + ", 5)", x, INDEX, () -> x.set(setting, 5));
        }
    }

    private static void setNoValue(Check check) {
        HangingChain x = new HangingChain();
        for (int k = 0; k <= 3; k++) {
            int setting = k;
            for (int value : new int[] {Integer.MIN_VALUE, LEAST[k] - 1, MOST[k] + 1, Integer.MAX_VALUE}) {
                check.refuses("set(" + k + ", " + value + ")", x, ARGUMENT, () -> x.set(setting, value));
            }
        }
    }
}
