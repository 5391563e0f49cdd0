/** Trials of the promises 20 to 26. */
final class WouldBeSentences {
    private static final Class<IndexOutOfBoundsException> INDEX = IndexOutOfBoundsException.class;
    private static final Class<IllegalArgumentException> ARGUMENT = IllegalArgumentException.class;
    private static final int[] SIZES = {1, 2, 19, 20};
    private static final int[] NO_AMOUNTS = {Integer.MIN_VALUE, -1, 100, Integer.MAX_VALUE};

    static void tell(Sentences s) {
        weights(s);
        moves(s);
        steps(s);
        digest(s);
    }

    private static void weights(Sentences s) {
        s.under("Promise 20");
        s.hold("Tells the greatest force with another weight at a joint.", WouldBeSentences::asIfItWereSet);
        s.hold("- `joint`: its number", WouldBeSentences::ifWeightAtTheWalls);
        s.hold("- `weight`: 0 to 99", WouldBeSentences::ifWeightLeastAndMost);
        s.hold("Returns the greatest force of a link then.", WouldBeSentences::ifWeightTellsForce);
        s.hold("Throws `IndexOutOfBoundsException` if there is no such joint", WouldBeSentences::ifWeightNoJoint);
        s.hold("Throws `IllegalArgumentException` if weight is out of range", WouldBeSentences::ifWeightNoAmount);
        s.under("Promise 21");
        s.hold("Finds the greatest weight at a joint with which the chain holds.",
            WouldBeSentences::mostWeightOfSome);
        s.hold("- `joint`: its number", WouldBeSentences::mostWeightAtTheWalls);
        s.hold("Returns the greatest weight, 0 to 99", WouldBeSentences::mostWeightLeastAndMost);
        s.hold("NONE if there is none", WouldBeSentences::mostWeightNone);
        s.hold("Throws `IndexOutOfBoundsException` if there is no such joint", WouldBeSentences::mostWeightNoJoint);
    }

    private static void moves(Sentences s) {
        s.under("Promise 22");
        s.hold("Finds the joint to which a weight had best be moved.", WouldBeSentences::bestMoveOfEach);
        s.hold("- `joint`: its number", WouldBeSentences::bestMoveFromTheWalls);
        s.hold("Returns the other joint", WouldBeSentences::bestMoveIsAnother);
        s.hold("with the least greatest force if the weight of this one was moved there, as move() does",
            WouldBeSentences::bestMoveAsFarAs99);
        s.hold("of several the lowest", WouldBeSentences::bestMoveOfSeveral);
        s.hold("NONE if it has no weight", WouldBeSentences::bestMoveNone);
        s.hold("Throws `IndexOutOfBoundsException` if there is no such joint", WouldBeSentences::bestMoveNoJoint);
        s.under("Promise 23");
        s.hold("Finds where a hanger had best be.", WouldBeSentences::bestHangerOfEach);
        s.hold("- `holds`: 0 to 99", WouldBeSentences::bestHangerLeastAndMost);
        s.hold("Returns the joint between the walls", WouldBeSentences::bestHangerBetween);
        s.hold("if its hanger held so much more", WouldBeSentences::bestHangerMore);
        s.hold("but at most 99", WouldBeSentences::bestHangerAtMost99);
        s.hold("of several the lowest", WouldBeSentences::bestHangerOfSeveral);
        s.hold("NONE if there is none", WouldBeSentences::bestHangerNone);
        s.hold("Throws `IllegalArgumentException` if holds is out of range", WouldBeSentences::bestHangerNoAmount);
    }

    private static void steps(Sentences s) {
        s.under("Promise 24");
        s.hold("Finds the step with which a link would bear least.", WouldBeSentences::bestStepEach);
        s.hold("- `link`: its number", WouldBeSentences::bestStepFirstAndLast);
        s.hold("Returns the step, with 2 more, with which the greatest force of the chain would be least",
            WouldBeSentences::bestStepOfTheChain);
        s.hold("Returns the step, with 2 more", WouldBeSentences::bestStepIsAStep);
        s.hold("of several the least step", WouldBeSentences::bestStepOfSeveral);
        s.hold("Throws `IndexOutOfBoundsException` if there is no such link", WouldBeSentences::bestStepNoLink);
        s.under("Promise 25");
        s.hold("Returns how evenly the walls bear.", WouldBeSentences::evennessTurned);
        s.hold("Returns the lesser of what both walls bear, as a double, divided by the greater",
            WouldBeSentences::lesserByGreater);
        s.hold("1.0 if that is 0", WouldBeSentences::evennessOfNothing);
    }

    private static void digest(Sentences s) {
        s.under("Promise 26");
        s.hold("Computes a hash of the whole state.", WouldBeSentences::digestOfStates);
        s.hold("The hash starts at 3119.", WouldBeSentences::digestOfANewObject);
        s.hold("For each value v of the following list, in order, the hash becomes 31 * hash + v, "
            + "in long arithmetic with overflow.", WouldBeSentences::digestOfAFormerRun);
        s.hold("count(0) to count(10); setting of 0 to 3; for each link its numbers 0 to 2, and bestStep; "
            + "for each joint its numbers 0 to 7, ifWeight of 20, mostWeight and bestMove; bestHanger of 15",
            WouldBeSentences::digestOfSizes);
        s.hold("bestHanger of 15", WouldBeSentences::digestOfHanger15);
        s.hold("the bits of evenness (as Double.doubleToLongBits)", WouldBeSentences::digestOfShares);
        s.hold("the length of the buffer and each of its character codes", WouldBeSentences::digestOfBuffers);
        s.hold("Returns the hash.", WouldBeSentences::digestAgain);
    }

    /** The heights of the joints are 0, -1, -2, -1, 0. */
    private static HangingChain laden() {
        HangingChain x = Check.shaped("v[10]v[20]^[30]^[4]");
        x.hanger(1, 5);
        x.prop(2, 6);
        return x;
    }

    private static HangingChain weightless(String shape) {
        HangingChain x = Check.shaped(shape);
        x.set(0, 0);
        return x;
    }

    private static void asIfItWereSet(Check check) {
        for (int joint = 0; joint <= 4; joint++) {
            HangingChain x = laden();
            HangingChain set = laden();
            long before = x.digest();
            for (int weight = 0; weight <= 99; weight++) {
                set.weight(joint, weight);
                check.same("ifWeight(" + joint + ", " + weight + ")", x.ifWeight(joint, weight), set.count(5));
            }
            check.same("nothing is changed", x.digest(), before);
        }
    }

    private static void ifWeightAtTheWalls(Check check) {
        HangingChain x = laden();
        for (int weight : new int[] {0, 1, 99}) {
            check.same("at the joint 0", x.ifWeight(0, weight), 34);
            check.same("at the last joint", x.ifWeight(4, weight), 34);
        }
        check.same("of one link", Check.shaped("^2[50]").ifWeight(1, 99), 2);
        HangingChain longest = weightless("=".repeat(20));
        check.same("at the joint 1 of 20 links", longest.ifWeight(1, 20), 19);
        check.same("at the joint 19 of 20 links", longest.ifWeight(19, 20), 19);
        check.same("at the joint 20 of 20 links", longest.ifWeight(20, 20), 0);
    }

    private static void ifWeightLeastAndMost(Check check) {
        HangingChain x = weightless("=[50]=");
        int[] weights = {0, 1, 2, 50, 98, 99};
        int[] due = {0, 1, 1, 25, 49, 50};
        for (int k = 0; k < weights.length; k++) {
            check.same("ifWeight(1, " + weights[k] + ")", x.ifWeight(1, weights[k]), due[k]);
        }
        x.hanger(1, 98);
        check.same("with a hanger for all but one", x.ifWeight(1, 99), 1);
        x.hanger(1, 99);
        check.same("with a hanger for all", x.ifWeight(1, 99), 0);
    }

    private static void ifWeightTellsForce(Check check) {
        HangingChain x = weightless("=v2=[40]=");
        x.set(2, 20);
        check.same("of a middle link", x.ifWeight(1, 0), 50);
        check.same("of the same, relieved", x.ifWeight(1, 39), 41);
        check.same("the least", x.ifWeight(1, 40), 40);
        check.same("of the first link", x.ifWeight(1, 41), 41);
        check.same("the force as it is", x.count(5), 50);
    }

    private static void ifWeightNoJoint(Check check) {
        for (int links : SIZES) {
            HangingChain x = Check.shaped("=".repeat(links));
            for (int joint : new int[] {Integer.MIN_VALUE, -1, links + 1, 21, Integer.MAX_VALUE}) {
                check.refuses("ifWeight(" + joint + ", 5)", x, INDEX, () -> x.ifWeight(joint, 5));
            }
        }
    }

    private static void ifWeightNoAmount(Check check) {
        HangingChain x = laden();
        for (int weight : NO_AMOUNTS) {
            for (int one = 0; one <= 4; one++) {
                int joint = one;
                check.refuses("ifWeight(" + joint + ", " + weight + ")", x, ARGUMENT, () -> x.ifWeight(joint, weight));
            }
        }
    }

    private static void mostWeightOfSome(Check check) {
        HangingChain x = weightless("=v2=[40]=");
        x.set(2, 20);
        int[] limits = {49, 45, 43, 42, 41, 40, 39};
        int[] due = {52, 46, 44, 42, 41, 40, -1};
        for (int k = 0; k < limits.length; k++) {
            x.set(3, limits[k]);
            check.same("at " + limits[k] + ", where less would break, too", x.mostWeight(1), due[k]);
        }
        x.set(3, 40);
        check.same("less breaks", x.ifWeight(1, 39), 41);
        check.same("more breaks", x.ifWeight(1, 41), 41);
    }

    private static void mostWeightAtTheWalls(Check check) {
        HangingChain x = laden();
        x.set(3, 34);
        check.same("at the joint 0, as the chain holds", x.mostWeight(0), 99);
        check.same("at the last joint, as the chain holds", x.mostWeight(4), 99);
        x.set(3, 33);
        check.same("at the joint 0, as it breaks", x.mostWeight(0), -1);
        check.same("at the last joint, as it breaks", x.mostWeight(4), -1);
        check.same("between, as less weight would hold", x.mostWeight(3), 29);
        check.same("of one link", new HangingChain().mostWeight(1), 99);
    }

    private static void mostWeightLeastAndMost(Check check) {
        HangingChain x = weightless("==");
        int[] limits = {999, 51, 50, 49, 48, 2, 1};
        int[] due = {99, 99, 99, 98, 96, 4, 2};
        for (int k = 0; k < limits.length; k++) {
            x.set(3, limits[k]);
            check.same("at " + limits[k], x.mostWeight(1), due[k]);
        }
        x.hanger(1, 97);
        check.same("with a hanger for 97", x.mostWeight(1), 99);
        x.hanger(1, 96);
        check.same("with a hanger for 96", x.mostWeight(1), 98);
        x.hanger(1, 0);
        x.set(0, 20);
        x.set(3, 20);
        check.same("just 0", x.mostWeight(1), 0);
    }

    private static void mostWeightNone(Check check) {
        HangingChain x = Check.shaped("==");
        x.set(0, 20);
        x.set(3, 19);
        check.same("none between", x.mostWeight(1), -1);
        check.same("none at the joint 0", x.mostWeight(0), -1);
        check.same("none at the last joint", x.mostWeight(2), -1);
        HangingChain one = Check.shaped("^2");
        one.set(3, 1);
        check.same("none of one link", one.mostWeight(0), -1);
        one.set(3, 2);
        check.same("any of one link", one.mostWeight(0), 99);
    }

    private static void mostWeightNoJoint(Check check) {
        for (int links : SIZES) {
            HangingChain x = Check.shaped("=".repeat(links));
            for (int joint : new int[] {Integer.MIN_VALUE, -1, links + 1, 21, Integer.MAX_VALUE}) {
                check.refuses("mostWeight(" + joint + ")", x, INDEX, () -> x.mostWeight(joint));
            }
        }
    }

    private static void bestMoveOfEach(Check check) {
        HangingChain x = weightless("=[50]==");
        x.weight(0, 99);
        x.weight(3, 99);
        x.hanger(2, 99);
        check.same("to the joint with a hanger", x.bestMove(1), 2);
        x.hanger(2, 0);
        check.same("to the joint between the walls", x.bestMove(1), 2);
        x.weight(3, 98);
        check.same("one can be moved to the wall", x.bestMove(1), 2);
        x.weight(3, 49);
        check.same("all can be moved to the wall", x.bestMove(1), 3);
        check.same("nothing is changed", x.count(1), 99 + 50 + 49);
    }

    private static void bestMoveFromTheWalls(Check check) {
        HangingChain x = weightless("=[20]==[30]");
        x.weight(0, 10);
        check.same("from the joint 0", x.bestMove(0), 3);
        check.same("from the last joint", x.bestMove(3), 0);
        HangingChain longest = weightless("=".repeat(19) + "[50]=[7]");
        check.same("from the joint 20", longest.bestMove(20), 0);
        longest.weight(0, 99);
        check.same("from the joint 19 to the last one", longest.bestMove(19), 20);
        check.same("from the joint 0 to the last one", longest.bestMove(0), 20);
    }

    private static void bestMoveIsAnother(Check check) {
        HangingChain x = weightless("==");
        x.weight(0, 50);
        check.same("from the joint 0", x.bestMove(0), 2);
        HangingChain one = Check.shaped("=[5]");
        check.same("from the last joint of one link", one.bestMove(1), 0);
        one.move(1, 0);
        check.same("from the joint 0 of one link", one.bestMove(0), 1);
        HangingChain held = weightless("=[50]=[50]=");
        held.weight(0, 99);
        held.weight(3, 99);
        held.hanger(1, 99);
        check.same("though it had best stay", held.bestMove(1), 0);
    }

    private static void bestMoveAsFarAs99(Check check) {
        int[] first = {69, 70, 70, 98, 99, 99};
        int[] last = {69, 69, 70, 90, 70, 99};
        int[] due = {0, 3, 0, 3, 3, 0};
        for (int k = 0; k < first.length; k++) {
            HangingChain x = weightless("=[30]==");
            x.weight(0, first[k]);
            x.weight(3, last[k]);
            check.same("with " + first[k] + " and " + last[k] + " at the walls", x.bestMove(1), due[k]);
        }
    }

    private static void bestMoveOfSeveral(Check check) {
        HangingChain x = Check.shaped("v2[50]v2[20]^2[30]^2[6]");
        check.same("of both walls", x.bestMove(1), 0);
        check.same("of both walls", x.bestMove(2), 0);
        check.same("of both walls", x.bestMove(3), 0);
        HangingChain full = weightless("==[9]==[1]");
        for (int joint = 0; joint <= 4; joint++) {
            full.hanger(joint, 99);
        }
        check.same("of all", full.bestMove(2), 0);
        check.same("of all but the joint 0", Check.shaped("=[7]").bestMove(1), 0);
        full.weight(0, 5);
        check.same("of all others", full.bestMove(0), 1);
        check.same("of all others", full.bestMove(4), 0);
    }

    private static void bestMoveNone(Check check) {
        HangingChain x = Check.shaped("==[1]=");
        check.same("without weight at the joint 0", x.bestMove(0), -1);
        check.same("without weight between", x.bestMove(1), -1);
        check.same("without weight at the last joint", x.bestMove(3), -1);
        check.same("with a weight of 1", x.bestMove(2), 0);
        x.weight(2, 0);
        check.same("without weight any more", x.bestMove(2), -1);
        check.same("of a new object", new HangingChain().bestMove(0), -1);
        x.weight(0, 99);
        x.weight(3, 99);
        x.weight(2, 99);
        x.weight(1, 99);
        check.same("where nothing can be moved", x.bestMove(2), 0);
    }

    private static void bestMoveNoJoint(Check check) {
        for (int links : SIZES) {
            HangingChain x = Check.shaped("=[5]" + "=".repeat(links - 1));
            for (int joint : new int[] {Integer.MIN_VALUE, -1, links + 1, 21, Integer.MAX_VALUE}) {
                check.refuses("bestMove(" + joint + ")", x, INDEX, () -> x.bestMove(joint));
            }
        }
    }

    private static void bestHangerOfEach(Check check) {
        check.same("at the first of 19", Check.shaped("=[90]" + "=".repeat(19)).bestHanger(99), 1);
        check.same("at the last of 19", Check.shaped("=".repeat(19) + "[90]=").bestHanger(99), 19);
        HangingChain x = laden();
        long before = x.digest();
        check.same("at the joint 3", x.bestHanger(9), 3);
        check.same("nothing is changed", x.digest(), before);
    }

    private static void bestHangerLeastAndMost(Check check) {
        HangingChain x = weightless("=[20]=[99]=");
        check.same("for 0", x.bestHanger(0), 1);
        check.same("for 1", x.bestHanger(1), 2);
        check.same("for 98", x.bestHanger(98), 2);
        check.same("for 99", x.bestHanger(99), 2);
    }

    private static void bestHangerBetween(Check check) {
        HangingChain two = Check.shaped("==");
        check.same("just one between", two.bestHanger(0), 1);
        check.same("just one between", two.bestHanger(99), 1);
        HangingChain x = weightless("==[9]=");
        x.weight(0, 99);
        x.weight(3, 99);
        check.same("not at the walls", x.bestHanger(9), 2);
    }

    private static void bestHangerMore(Check check) {
        HangingChain x = weightless("=[99]=[20]=");
        x.hanger(1, 10);
        check.same("5 more than 10", x.bestHanger(5), 1);
        HangingChain held = weightless("=[60]=[60]=");
        held.hanger(1, 50);
        check.same("just 10 more are of use", held.bestHanger(99), 2);
        held.hanger(1, 0);
        held.hanger(2, 50);
        check.same("just 10 more are of use", held.bestHanger(99), 1);
    }

    private static void bestHangerAtMost99(Check check) {
        int[] holds = {0, 1, 2, 3, 4};
        int[] due = {1, 1, 2, 2, 2};
        for (int k = 0; k < holds.length; k++) {
            HangingChain x = Check.shaped("=[99]=[98]=");
            x.set(0, 20);
            x.hanger(1, 97);
            check.same("for " + holds[k] + " more than 97", x.bestHanger(holds[k]), due[k]);
        }
        check.same("99 count", bestHangerWith("=[61]=[50]=", 98, 1), 1);
        check.same("100 do not count", bestHangerWith("=[62]=[51]=", 96, 4), 2);
        check.same("not where it holds 99", bestHangerWith("=[99]=[98]=", 99, 1), 2);
    }

    private static int bestHangerWith(String shape, int held, int more) {
        HangingChain x = Check.shaped(shape);
        x.set(0, 20);
        x.hanger(1, held);
        return x.bestHanger(more);
    }

    private static void bestHangerOfSeveral(Check check) {
        check.same("of all", Check.shaped("=".repeat(20)).bestHanger(0), 1);
        HangingChain x = weightless("v2v2v2^2^2^2");
        check.same("of all, though others are lower", x.bestHanger(99), 1);
        x.weight(2, 6);
        x.weight(4, 6);
        check.same("of two", x.bestHanger(6), 2);
    }

    private static void bestHangerNone(Check check) {
        HangingChain one = Check.shaped("^2[50]");
        check.same("for 0", one.bestHanger(0), -1);
        check.same("for 99", one.bestHanger(99), -1);
        one.link(0);
        check.same("one more link", one.bestHanger(99), 1);
        one.cut(0);
        check.same("one link again", one.bestHanger(99), -1);
    }

    private static void bestHangerNoAmount(Check check) {
        HangingChain x = laden();
        HangingChain one = new HangingChain();
        for (int holds : NO_AMOUNTS) {
            check.refuses("bestHanger(" + holds + ")", x, ARGUMENT, () -> x.bestHanger(holds));
            check.refuses("bestHanger(" + holds + ") of one link", one, ARGUMENT, () -> one.bestHanger(holds));
        }
    }

    private static void bestStepEach(Check check) {
        HangingChain down = Check.shaped("=[50]=");
        down.prop(1, 99);
        int[] reaches = {-3, -2, -1, 0};
        int[] due = {2, 0, 1, 2};
        for (int k = 0; k < reaches.length; k++) {
            down.set(1, reaches[k]);
            check.same("to a prop up to " + reaches[k], down.bestStep(0), due[k]);
        }
        HangingChain up = weightless("=[30]^[15]v2[15]=");
        up.set(2, 18);
        up.prop(3, 99);
        int[] upReaches = {-3, -2, -1, 0};
        int[] upDue = {2, 3, 4, 0};
        for (int k = 0; k < upReaches.length; k++) {
            up.set(1, upReaches[k]);
            check.same("off a prop up to " + upReaches[k], up.bestStep(1), upDue[k]);
        }
    }

    private static void bestStepFirstAndLast(Check check) {
        HangingChain one = Check.shaped("^2");
        check.same("of one link", one.bestStep(0), 2);
        check.same("it stays as it is", one.linkOf(0, 0), 4);
        for (int links : new int[] {2, 19, 20}) {
            HangingChain x = weightless("=".repeat(links - 1) + "^");
            check.same("of the last of " + links, x.bestStep(links - 1), 2);
            check.same("of the first of " + links, x.bestStep(0), 1);
            x.bend(0, 2);
            check.same("of the first of " + links + ", bent", x.bestStep(0), 1);
            check.same("of the last of " + links + ", the first one bent", x.bestStep(links - 1), 0);
        }
    }

    private static void bestStepOfTheChain(Check check) {
        HangingChain x = Check.shaped("^2[50]=[50]=");
        check.same("of the link with the greatest force", x.bestStep(0), 2);
        check.same("of another link", x.bestStep(1), 0);
        check.same("of the last link", x.bestStep(2), 0);
        long before = x.digest();
        x.bestStep(1);
        check.same("nothing is changed", x.digest(), before);
    }

    /** A step of 3 would bear less here: down to the prop, and off it. */
    private static void bestStepIsAStep(Check check) {
        HangingChain down = Check.shaped("=[50]=");
        down.prop(1, 99);
        down.set(1, -3);
        check.same("with a prop 3 further down", down.bestStep(0), 2);
        HangingChain up = weightless("=[7]=[63]=[36]v2[6]v[14]");
        up.set(1, 0);
        up.set(2, 8);
        up.prop(4, 99);
        check.same("with a prop that reaches 2 further up", up.bestStep(2), 0);
    }

    private static void bestStepOfSeveral(Check check) {
        HangingChain x = new HangingChain();
        x.set(2, 0);
        check.same("of all", x.bestStep(0), 0);
        HangingChain two = Check.shaped("^=");
        two.set(0, 0);
        check.same("of -1, 0 and 1", two.bestStep(1), 1);
        two.bend(0, 2);
        check.same("of all, as another link bears more", two.bestStep(1), 0);
    }

    private static void bestStepNoLink(Check check) {
        for (int links : SIZES) {
            HangingChain x = Check.shaped("=".repeat(links));
            for (int link : new int[] {Integer.MIN_VALUE, -1, links, 20, Integer.MAX_VALUE}) {
                check.refuses("bestStep(" + link + ")", x, INDEX, () -> x.bestStep(link));
            }
        }
    }

    private static void evennessTurned(Check check) {
        HangingChain x = weightless("=[4]===");
        check.same("1 behind, 3 ahead", x.evenness(), 1.0 / 3.0);
        x.turn();
        check.same("3 behind, 1 ahead", x.evenness(), 1.0 / 3.0);
    }

    private static void lesserByGreater(Check check) {
        String[] shapes = {"=[1]=", "=[2]=", "=[3]=", "=[3]==", "==[3]=", "=[10]=[1]=", "=[40]===", "=[1]=[1]="};
        double[] due = {0.0, 1.0, 0.5, 0.5, 0.5, 3.0 / 8.0, 1.0 / 3.0, 0.0};
        for (int k = 0; k < shapes.length; k++) {
            check.same("evenness of " + shapes[k], weightless(shapes[k]).evenness(), due[k]);
        }
    }

    private static void evennessOfNothing(Check check) {
        check.same("of a new object", new HangingChain().evenness(), 1.0);
        HangingChain x = weightless("===");
        check.same("without weights", x.evenness(), 1.0);
        x.weight(1, 9);
        x.hanger(1, 9);
        check.same("with all held", x.evenness(), 1.0);
        x.hanger(1, 8);
        check.same("with all but one held", x.evenness(), 0.0);
        x.weight(0, 99);
        x.weight(1, 0);
        check.same("with a weight at a wall", x.evenness(), 1.0);
    }

    private static void same(Check check, String of, HangingChain x, String buffer) {
        check.same("digest of " + of, x.digest(), WouldBeTest.byTheFace(x, buffer));
    }

    private static void digestAgain(Check check) {
        HangingChain x = laden();
        check.same("digest again", x.digest(), x.digest());
        check.same("digest of the same calls", x.digest(), laden().digest());
        check.same("saved states", x.count(10), 3);
    }

    private static void digestOfStates(Check check) {
        HangingChain x = laden();
        long[] seen = new long[6];
        seen[0] = x.digest();
        x.weight(0, 1);
        seen[1] = x.digest();
        x.append('=');
        seen[2] = x.digest();
        x.set(3, 59);
        seen[3] = x.digest();
        x.prop(4, 1);
        seen[4] = x.digest();
        x.undo();
        seen[5] = x.digest();
        for (int k = 0; k < seen.length; k++) {
            for (int other = 0; other < k; other++) {
                boolean alike = seen[k] == seen[other];
                check.same("alike, " + other + " and " + k, alike ? 1 : 0, other == 3 && k == 5 ? 1 : 0);
            }
        }
    }

    private static void digestOfANewObject(Check check) {
        long[] values = {1, 0, 0, 0, 0, 0, 0, 1, 0, 100, 0, 101, 98, 101, 160, 2, 0, 0, 2,
            100, 0, 0, 0, 0, 0, 0, 0, 0, 99, -1, 100, 0, 0, 0, 0, 0, 0, 0, 0, 99, -1,
            -1, 4607182418800017408L, 0};
        long hash = 3119;
        for (long value : values) {
            hash = 31 * hash + value;
        }
        check.same("digest of a new object", new HangingChain().digest(), hash);
    }

    /** The answer is that of a test under ../shared/tests. */
    private static void digestOfAFormerRun(Check check) {
        check.same("digest of ^", Check.shaped("^").digest(), 7765533593225017785L);
    }

    private static void digestOfSizes(Check check) {
        for (int links = 1; links <= 20; links++) {
            HangingChain x = Check.shaped("v2".repeat(links));
            for (int joint = 0; joint <= links; joint++) {
                x.weight(joint, (joint * 37 + links) % 100);
                x.hanger(joint, joint * 3);
                x.prop(joint, joint * 4);
            }
            same(check, links + " links", x, "");
        }
    }

    private static void digestOfHanger15(Check check) {
        HangingChain x = weightless("=[17]=[25]=");
        check.same("bestHanger(14)", x.bestHanger(14), 2);
        check.same("bestHanger(15)", x.bestHanger(15), 1);
        check.same("bestHanger(16)", x.bestHanger(16), 2);
        same(check, "where 15 had best be at another joint", x, "");
    }

    private static void digestOfShares(Check check) {
        for (int joint = 1; joint <= 6; joint++) {
            for (int weight = 0; weight <= 99; weight++) {
                HangingChain x = weightless("=======");
                x.weight(joint, weight);
                same(check, weight + " at " + joint + " of 7 links", x, "");
            }
        }
    }

    private static void digestOfBuffers(Check check) {
        String longest = "!~".repeat(30);
        for (int length : new int[] {0, 1, 2, 59, 60}) {
            String text = longest.substring(0, length);
            same(check, text, Check.typed(text), text);
        }
        HangingChain cleared = Check.typed(longest);
        cleared.clearBuffer();
        cleared.append('=');
        same(check, "a cleared buffer and =", cleared, "=");
        boolean alike = Check.typed("=").digest() == Check.typed(">").digest();
        check.same("digests of a right and a wrong text are alike", alike ? 1 : 0, 0);
    }
}
