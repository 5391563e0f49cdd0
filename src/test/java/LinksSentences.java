/** Trials of the promises 1 to 5. */
final class LinksSentences {
    private static final Class<IndexOutOfBoundsException> INDEX = IndexOutOfBoundsException.class;
    private static final Class<IllegalArgumentException> ARGUMENT = IllegalArgumentException.class;
    private static final Class<IllegalStateException> STATE = IllegalStateException.class;
    private static final int[] NO_STEPS = {Integer.MIN_VALUE, -100, -3, 3, 100, Integer.MAX_VALUE};

    static void tell(Sentences s) {
        s.under("Promise 1");
        s.hold("Creates a chain of one level link, with an empty buffer.", LinksSentences::newObject);
        s.hold("Creates a chain of one level link, with an empty buffer.", LinksSentences::objectsAreApart);
        link(s);
        cut(s);
        bend(s);
        turn(s);
    }

    private static void link(Sentences s) {
        s.under("Promise 2");
        s.hold("Puts a link behind the last one", LinksSentences::linkComesLast);
        s.hold("the joint behind it has no weight, hanger or prop", LinksSentences::newJointIsEmpty);
        s.hold("Undoable.", check -> check.undoes("link", LinksSentences::laden, x -> x.link(0)));
        s.hold("Undoable.", LinksSentences::link20IsUndone);
        s.hold("- `step`: -2 to 2", LinksSentences::linkOfEachStep);
        s.hold("Returns how many links there are then.", LinksSentences::linkTellsLinks);
        s.hold("Throws `IllegalArgumentException` if step is out of range", LinksSentences::linkOfNoStep);
        s.hold("Throws `IllegalStateException` if there are 20", LinksSentences::linkAt20);
    }

    private static void cut(Sentences s) {
        s.under("Promise 3");
        s.hold("Takes a link out, and the joint behind it with what it has.", LinksSentences::cutEach);
        s.hold("Takes a link out, and the joint behind it with what it has.", LinksSentences::cutOf20);
        s.hold("Undoable.", check -> check.undoes("cut", LinksSentences::laden, x -> x.cut(2)));
        s.hold("- `link`: its number", LinksSentences::cutFirstAndLast);
        s.hold("Returns how many links there are then.", LinksSentences::cutTellsLinks);
        s.hold("Throws `IndexOutOfBoundsException` if there is no such link", LinksSentences::cutNoLink);
        s.hold("Throws `IllegalStateException` if there is only one", LinksSentences::cutTheOnlyOne);
    }

    private static void bend(Sentences s) {
        s.under("Promise 4");
        s.hold("Changes the step of a link.", LinksSentences::bendEach);
        s.hold("Undoable.", check -> check.undoes("bend", LinksSentences::laden, x -> x.bend(2, -2)));
        s.hold("- `link`: its number", LinksSentences::bendFirstAndLast);
        s.hold("- `step`: -2 to 2", LinksSentences::bendToEachStep);
        s.hold("Returns the previous step, with 2 more.", LinksSentences::bendTellsPrevious);
        s.hold("Throws `IndexOutOfBoundsException` if there is no such link", LinksSentences::bendNoLink);
        s.hold("Throws `IllegalArgumentException` if step is out of range", LinksSentences::bendToNoStep);
    }

    private static void turn(Sentences s) {
        s.under("Promise 5");
        s.hold("the links come in the opposite order, with the opposite steps", LinksSentences::turnLinks);
        s.hold("and the joints, with what they have, in the opposite order, too", LinksSentences::turnJoints);
        s.hold("Turns the chain round", LinksSentences::turnTwice);
        s.hold("Undoable.", check -> check.undoes("turn", LinksSentences::laden, HangingChain::turn));
        s.hold("Returns the height that the last joint has then, with 100 more.", LinksSentences::turnTellsHeight);
    }

    /** Three links, and at each joint another weight, hanger and prop. */
    private static HangingChain laden() {
        HangingChain x = Check.shaped("v2[1]=[2]^[3]");
        x.weight(0, 9);
        for (int joint = 0; joint <= 3; joint++) {
            x.hanger(joint, 10 + joint);
            x.prop(joint, 20 + joint);
        }
        return x;
    }

    private static void newObject(Check check) {
        HangingChain x = new HangingChain();
        check.same("links", x.count(0), 1);
        check.same("its step", x.linkOf(0, 0), 2);
        check.text("heights", Check.joints(x, 0), "100 100");
        check.same("saved states", x.count(10), 0);
        check.same("firstError", x.firstError(), 0);
        check.refuses("shape", x, ARGUMENT, x::shape);
        check.refuses("undo", x, STATE, x::undo);
        check.same("the buffer's length", x.clearBuffer(), 0);
        check.same("evenness", x.evenness(), 1.0);
    }

    private static void objectsAreApart(Check check) {
        HangingChain one = laden();
        one.set(3, 5);
        Check.type(one, "=v");
        HangingChain other = new HangingChain();
        check.same("links of another one", other.count(0), 1);
        check.same("weights of another one", other.count(1), 0);
        check.same("a setting of another one", other.setting(3), 160);
        check.same("saved states of another one", other.count(10), 0);
        check.same("the buffer of another one", other.clearBuffer(), 0);
        check.same("links of the first one", one.count(0), 3);
        check.same("the buffer of the first one", one.clearBuffer(), 2);
    }

    private static void linkComesLast(Check check) {
        HangingChain x = Check.shaped("v[5]");
        x.set(0, 0);
        check.same("loads of one link", x.count(2), 0);
        x.link(2);
        check.text("steps", Check.steps(x), "-1 2");
        check.text("heights", Check.joints(x, 0), "100 99 101");
        check.same("loads, the joint 1 between the walls", x.count(2), 5);
        x.link(-2);
        check.text("steps of three", Check.steps(x), "-1 2 -2");
    }

    private static void newJointIsEmpty(Check check) {
        HangingChain x = laden();
        x.cut(2);
        x.link(0);
        emptyBehind(check, "behind cut and link", x);
        x.undo();
        x.undo();
        x.undo();
        x.link(0);
        check.same("links", x.count(0), 4);
        check.text("weights, one more", Check.joints(x, 1), "9 1 2 3 0");
        HangingChain shorter = laden();
        Check.type(shorter, "==");
        shorter.shape();
        shorter.link(0);
        check.text("weights behind a shorter shape", Check.joints(shorter, 1), "0 0 0 0");
        HangingChain undone = laden();
        undone.link(0);
        undone.weight(4, 7);
        undone.hanger(4, 7);
        undone.prop(4, 7);
        for (int k = 0; k < 4; k++) {
            undone.undo();
        }
        undone.link(1);
        for (int what = 1; what <= 3; what++) {
            check.same("number " + what + " behind undo", undone.joint(4, what), 0);
        }
    }

    private static void emptyBehind(Check check, String when, HangingChain x) {
        check.text("weights " + when, Check.joints(x, 1), "9 1 2 0");
        check.text("hangers " + when, Check.joints(x, 2), "10 11 12 0");
        check.text("props " + when, Check.joints(x, 3), "20 21 22 0");
    }

    private static void link20IsUndone(Check check) {
        check.undoes("the link 20", () -> Check.shaped("=".repeat(19)), x -> x.link(2));
    }

    private static void linkOfEachStep(Check check) {
        HangingChain x = new HangingChain();
        for (int step = -2; step <= 2; step++) {
            x.link(step);
        }
        check.text("steps", Check.steps(x), "0 -2 -1 0 1 2");
    }

    private static void linkTellsLinks(Check check) {
        HangingChain x = new HangingChain();
        for (int links = 2; links <= 20; links++) {
            check.same("link", x.link(0), links);
        }
        x.cut(0);
        check.same("link behind a cut", x.link(0), 20);
    }

    private static void linkOfNoStep(Check check) {
        HangingChain x = laden();
        for (int step : NO_STEPS) {
            check.refuses("link(" + step + ")", x, ARGUMENT, () -> x.link(step));
        }
    }

    private static void linkAt20(Check check) {
        HangingChain x = Check.shaped("^".repeat(19));
        check.same("link at 19", x.link(-2), 20);
        for (int step = -2; step <= 2; step++) {
            int one = step;
            check.refuses("link(" + one + ") at 20", x, STATE, () -> x.link(one));
        }
        x.undo();
        check.same("link, one undone", x.link(2), 20);
        HangingChain shaped = Check.shaped("v2".repeat(20));
        check.refuses("link behind a shape of 20", shaped, STATE, () -> shaped.link(0));
        shaped.turn();
        check.refuses("link, turned", shaped, STATE, () -> shaped.link(0));
        shaped.cut(19);
        check.same("link, one cut", shaped.link(0), 20);
    }

    private static void cutEach(Check check) {
        String[] steps = {"0 1", "-2 1", "-2 0"};
        String[] weights = {"9 2 3", "9 1 3", "9 1 2"};
        String[] hangers = {"10 12 13", "10 11 13", "10 11 12"};
        String[] props = {"20 22 23", "20 21 23", "20 21 22"};
        for (int link = 0; link < 3; link++) {
            HangingChain x = laden();
            x.cut(link);
            check.text("steps, " + link + " cut", Check.steps(x), steps[link]);
            check.text("weights, " + link + " cut", Check.joints(x, 1), weights[link]);
            check.text("hangers, " + link + " cut", Check.joints(x, 2), hangers[link]);
            check.text("props, " + link + " cut", Check.joints(x, 3), props[link]);
        }
    }

    private static void cutOf20(Check check) {
        HangingChain x = Check.shaped("^".repeat(18) + "v2[60]v[70]");
        x.hanger(20, 5);
        x.prop(20, 6);
        check.same("cut(0) of 20", x.cut(0), 19);
        check.same("the step of the last link", x.linkOf(18, 0), 1);
        check.same("the step of the one ahead of it", x.linkOf(17, 0), 0);
        check.same("the last joint's weight", x.joint(19, 1), 70);
        check.same("the last joint's hanger", x.joint(19, 2), 5);
        check.same("the last joint's prop", x.joint(19, 3), 6);
        check.same("the weight ahead of it", x.joint(18, 1), 60);
        check.refuses("joint(20, 1)", x, INDEX, () -> x.joint(20, 1));
        check.refuses("linkOf(19, 0)", x, INDEX, () -> x.linkOf(19, 0));
        HangingChain last = Check.shaped("^".repeat(18) + "v2[60]v[70]");
        last.cut(19);
        check.same("the last joint's weight, the last link cut", last.joint(19, 1), 60);
    }

    private static void cutFirstAndLast(Check check) {
        HangingChain x = Check.shaped("v2v=^^2");
        x.cut(0);
        check.text("steps, the first cut", Check.steps(x), "-1 0 1 2");
        x.cut(3);
        check.text("steps, the last cut", Check.steps(x), "-1 0 1");
        x.cut(1);
        check.text("steps, the middle one cut", Check.steps(x), "-1 1");
    }

    private static void cutTellsLinks(Check check) {
        HangingChain x = Check.shaped("=".repeat(20));
        for (int links = 19; links >= 1; links--) {
            check.same("cut", x.cut(links), links);
        }
    }

    private static void cutNoLink(Check check) {
        for (int links : new int[] {1, 2, 19, 20}) {
            HangingChain x = Check.shaped("=".repeat(links));
            for (int link : new int[] {Integer.MIN_VALUE, -1, links, links + 1, 20, Integer.MAX_VALUE}) {
                check.refuses("cut(" + link + ") of " + links, x, INDEX, () -> x.cut(link));
            }
        }
    }

    private static void cutTheOnlyOne(Check check) {
        HangingChain x = new HangingChain();
        check.refuses("cut(0) of one", x, STATE, () -> x.cut(0));
        x.link(2);
        check.same("cut(0) of two", x.cut(0), 1);
        check.text("steps", Check.steps(x), "2");
        check.refuses("cut(0) of one again", x, STATE, () -> x.cut(0));
        x.undo();
        check.same("cut(1) of two", x.cut(1), 1);
        check.text("steps, the last cut", Check.steps(x), "0");
    }

    private static void bendEach(Check check) {
        String[] steps = {"-1 0 1", "-2 -1 1", "-2 0 -1"};
        String[] heights = {"100 99 99 100", "100 98 97 98", "100 98 98 97"};
        for (int link = 0; link < 3; link++) {
            HangingChain x = laden();
            x.bend(link, -1);
            check.text("steps, " + link + " bent", Check.steps(x), steps[link]);
            check.text("heights, " + link + " bent", Check.joints(x, 0), heights[link]);
            check.text("weights, " + link + " bent", Check.joints(x, 1), "9 1 2 3");
        }
    }

    private static void bendFirstAndLast(Check check) {
        for (int links : new int[] {1, 2, 20}) {
            HangingChain x = Check.shaped("=".repeat(links));
            x.bend(0, -2);
            x.bend(links - 1, 1);
            check.same("the first of " + links, x.linkOf(0, 0), links == 1 ? 3 : 0);
            check.same("the last of " + links, x.linkOf(links - 1, 0), 3);
            check.same("the last height of " + links, x.joint(links, 0), links == 1 ? 101 : 99);
        }
    }

    private static void bendToEachStep(Check check) {
        HangingChain x = Check.shaped("=[1]=");
        for (int step = -2; step <= 2; step++) {
            x.bend(1, step);
            check.text("steps", Check.steps(x), "0 " + step);
        }
    }

    private static void bendTellsPrevious(Check check) {
        HangingChain x = new HangingChain();
        check.same("bend from 0", x.bend(0, -2), 2);
        check.same("bend from -2", x.bend(0, -1), 0);
        check.same("bend from -1", x.bend(0, 1), 1);
        check.same("bend from 1", x.bend(0, 2), 3);
        check.same("bend from 2", x.bend(0, 2), 4);
        check.same("bend from 2 again", x.bend(0, 0), 4);
    }

    private static void bendNoLink(Check check) {
        for (int links : new int[] {1, 2, 19, 20}) {
            HangingChain x = Check.shaped("=".repeat(links));
            for (int link : new int[] {Integer.MIN_VALUE, -1, links, 20, Integer.MAX_VALUE}) {
                check.refuses("bend(" + link + ", 0) of " + links, x, INDEX, () -> x.bend(link, 0));
            }
        }
    }

    private static void bendToNoStep(Check check) {
        HangingChain x = laden();
        for (int step : NO_STEPS) {
            check.refuses("bend(0, " + step + ")", x, ARGUMENT, () -> x.bend(0, step));
            check.refuses("bend(2, " + step + ")", x, ARGUMENT, () -> x.bend(2, step));
        }
    }

    private static void turnLinks(Check check) {
        String[] shapes = {"=", "^", "v2", "^^2", "v2v=", "v2v=^", "v2v=^^2", "^2=="};
        String[] steps = {"0", "-1", "2", "-2 -1", "0 1 2", "-1 0 1 2", "-2 -1 0 1 2", "0 0 -2"};
        for (int k = 0; k < shapes.length; k++) {
            HangingChain x = Check.shaped(shapes[k]);
            x.turn();
            check.text("steps of " + shapes[k], Check.steps(x), steps[k]);
        }
        HangingChain longest = Check.shaped("^2" + "=".repeat(18) + "^");
        longest.turn();
        check.same("the first of 20", longest.linkOf(0, 0), 1);
        check.same("the last of 20", longest.linkOf(19, 0), 0);
    }

    private static void turnJoints(Check check) {
        HangingChain even = laden();
        even.turn();
        check.text("heights", Check.joints(even, 0), "100 99 99 101");
        check.text("weights", Check.joints(even, 1), "3 2 1 9");
        check.text("hangers", Check.joints(even, 2), "13 12 11 10");
        check.text("props", Check.joints(even, 3), "23 22 21 20");
        HangingChain odd = laden();
        odd.cut(1);
        odd.turn();
        check.text("weights of three", Check.joints(odd, 1), "3 1 9");
        check.text("hangers of three", Check.joints(odd, 2), "13 11 10");
        check.text("props of three", Check.joints(odd, 3), "23 21 20");
        HangingChain one = Check.shaped("=[5]");
        one.hanger(0, 6);
        one.prop(1, 7);
        one.turn();
        check.text("weights of two", Check.joints(one, 1), "5 0");
        check.text("hangers of two", Check.joints(one, 2), "0 6");
        check.text("props of two", Check.joints(one, 3), "7 0");
        HangingChain longest = Check.shaped("=[1]" + "=".repeat(18) + "=[20]");
        longest.turn();
        check.same("the weight of the joint 0 of 20 links", longest.joint(0, 1), 20);
        check.same("the weight of the joint 19 of 20 links", longest.joint(19, 1), 1);
        check.same("the weight of the joint 20 of 20 links", longest.joint(20, 1), 0);
    }

    private static void turnTwice(Check check) {
        HangingChain x = laden();
        x.turn();
        x.turn();
        HangingChain due = laden();
        for (int what = 0; what <= 7; what++) {
            check.text("number " + what, Check.joints(x, what), Check.joints(due, what));
        }
        check.text("steps", Check.steps(x), Check.steps(due));
    }

    private static void turnTellsHeight(Check check) {
        check.same("turn of one level link", new HangingChain().turn(), 100);
        check.same("turn of ^", Check.shaped("^").turn(), 99);
        check.same("turn of v2^", Check.shaped("v2^").turn(), 101);
        HangingChain steepest = Check.shaped("v2".repeat(20));
        check.same("turn of the steepest", steepest.turn(), 140);
        check.same("turn back", steepest.turn(), 60);
    }
}
