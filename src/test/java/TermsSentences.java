/** Trials of 'What it is' and of the terms 'Links, joints', 'What is borne' and 'Settings'. */
final class TermsSentences {
    private static final Class<IndexOutOfBoundsException> INDEX = IndexOutOfBoundsException.class;
    private static final Class<IllegalArgumentException> ARGUMENT = IllegalArgumentException.class;
    private static final Class<IllegalStateException> STATE = IllegalStateException.class;

    static void tell(Sentences s) {
        s.under("What it is");
        s.hold("An object is used for at most 512 calls after it has been made", TermsSentences::call512);
        s.hold("An object is used for at most 512 calls after it has been made", TermsSentences::dearCalls512);
        s.under("Terms");
        s.hold("All numbers are integers, but for a share", TermsSentences::shareIsNotRounded);
        s.hold("divisions are rounded down", TermsSentences::roundedDown);
        links(s);
        borne(s);
        settings(s);
    }

    private static void links(Sentences s) {
        s.under("Links, joints");
        s.hold("The chain has at most 20 links", TermsSentences::atMost20);
        s.hold("numbered from 0", TermsSentences::numberedFrom0);
        s.hold("the joint k is ahead of the link k, and the last joint behind the last link",
            TermsSentences::jointAheadOfItsLink);
        s.hold("so there is one joint more than links", TermsSentences::oneJointMore);
        s.hold("Each link is of a sort: it goes down by 2, down by 1, level, up by 1 or up by 2: "
            + "its step is -2, -1, 0, 1 or 2.", TermsSentences::sorts);
        s.hold("The height of the joint 0 is 0", TermsSentences::heightOfTheJoint0);
        s.hold("that of each other one is that of the joint ahead of it, and the step of the link between",
            TermsSentences::greatestHeights);
        s.hold("A joint can have a weight, 0 to 99, at first 0", TermsSentences::weight);
        s.hold("a hanger that holds so much, 0 to 99, at first 0", TermsSentences::hanger);
        s.hold("and a prop that holds so much, 0 to 99, at first 0", TermsSentences::prop);
        s.hold("The joints 0 and the last one are held by walls", TermsSentences::lastJointIsAtTheWall);
        s.hold("their weights, hangers and props count for nothing", TermsSentences::wallsCountForNothing);
    }

    private static void borne(Sentences s) {
        s.under("What is borne");
        s.hold("The burden of a joint between the walls is its weight, and setting 0 for each of both links at it, "
            + "together", TermsSentences::burden);
        s.hold("its hanger takes as much of it as it holds", TermsSentences::hangerTakes);
        s.hold("of the rest its prop takes as much as it holds", TermsSentences::propTakes);
        s.hold("but only if its height is at most setting 1", TermsSentences::propReaches);
        s.hold("what is left then is its load", TermsSentences::load);
        s.hold("the load of the joint k, of a chain of n links, goes to the wall behind the last joint by "
            + "load * k / n, and the rest of it to the wall at the joint 0", TermsSentences::eachLoadIsRounded);
        s.hold("What a wall bears is the sum of what goes to it.", TermsSentences::wallsBear);
        s.hold("The force in the link k is, without its sign,", TermsSentences::forceWithoutSign);
        s.hold("what the wall at the joint 0 bears less the loads of the joints 1 to k",
            TermsSentences::forceLessLoads);
        s.hold("for each step that it goes down or up (the step without its sign), setting 2 more",
            TermsSentences::forceByStep);
        s.hold("A link breaks if its force is above setting 3.", TermsSentences::breaksAbove);
        s.hold("A chain holds if no link breaks.", TermsSentences::holdsIfNoneBreaks);
    }

    private static void settings(Sentences s) {
        s.under("Settings");
        s.hold("0: the weight of half a link, 0 to 20, at first 1", check -> setting(check, 0, 0, 20, 1));
        s.hold("1: the greatest height that props reach, -40 to 40, at first -2",
            check -> setting(check, 1, -40, 40, -2));
        s.hold("2: force by a step, 0 to 20, at first 1", check -> setting(check, 2, 0, 20, 1));
        s.hold("3: the greatest force, 1 to 999, at first 60.", check -> setting(check, 3, 1, 999, 60));
        s.hold("0: the weight of half a link, 0 to 20, at first 1", TermsSentences::halfLinksWeigh);
        s.hold("1: the greatest height that props reach, -40 to 40, at first -2", TermsSentences::propsReach);
        s.hold("3: the greatest force, 1 to 999, at first 60.", TermsSentences::greatestForces);
    }

    private static void call512(Check check) {
        HangingChain x = new HangingChain();
        for (int call = 1; call <= 511; call++) {
            check.same("weight, call " + call, x.weight(1, call % 100), (call - 1) % 100);
        }
        check.same("joint(1, 1), call 512", x.joint(1, 1), 11);
    }

    private static void dearCalls512(Check check) {
        HangingChain x = new HangingChain();
        for (int k = 1; k <= 19; k++) {
            x.link(-2);
        }
        for (int joint = 0; joint <= 20; joint++) {
            x.weight(joint, 99);
        }
        long due = x.digest();
        for (int call = 42; call <= 512; call++) {
            check.same("digest, call " + call, x.digest(), due);
        }
    }

    private static void shareIsNotRounded(Check check) {
        check.same("evenness of 1 and 2", Check.shaped("=[1]=").evenness(), 0.5);
    }

    private static void roundedDown(Check check) {
        HangingChain x = Check.shaped("=".repeat(20));
        x.set(0, 0);
        int[] loads = {0, 1, 2, 19, 20, 21, 39, 40, 41};
        int[] behind = {0, 0, 1, 18, 19, 19, 37, 38, 38};
        for (int k = 0; k < loads.length; k++) {
            x.weight(19, loads[k]);
            check.same("behind, of " + loads[k] + " * 19 / 20", x.count(4), behind[k]);
            check.same("ahead, of " + loads[k], x.count(3), loads[k] - behind[k]);
        }
    }

    private static void atMost20(Check check) {
        HangingChain x = new HangingChain();
        for (int k = 2; k <= 20; k++) {
            check.same("link", x.link(0), k);
        }
        check.same("links", x.count(0), 20);
        check.refuses("the link 21", x, STATE, () -> x.link(0));
        check.same("links of a shape of 20", Check.shaped("=".repeat(20)).count(0), 20);
        HangingChain longer = Check.typed("=".repeat(21));
        check.refuses("a shape of 21", longer, ARGUMENT, longer::shape);
    }

    private static void numberedFrom0(Check check) {
        HangingChain one = new HangingChain();
        check.same("linkOf(0, 0) of one", one.linkOf(0, 0), 2);
        check.refuses("linkOf(1, 0) of one", one, INDEX, () -> one.linkOf(1, 0));
        check.refuses("linkOf(-1, 0) of one", one, INDEX, () -> one.linkOf(-1, 0));
        HangingChain x = Check.shaped("v2" + "=".repeat(18) + "^2");
        check.same("linkOf(0, 0) of 20", x.linkOf(0, 0), 0);
        check.same("linkOf(19, 0) of 20", x.linkOf(19, 0), 4);
        check.refuses("linkOf(20, 0) of 20", x, INDEX, () -> x.linkOf(20, 0));
    }

    private static void jointAheadOfItsLink(Check check) {
        HangingChain x = Check.shaped("===");
        x.bend(0, 2);
        check.text("heights, the link 0 bent", Check.joints(x, 0), "100 102 102 102");
        x.bend(2, -1);
        check.text("heights, the last link bent", Check.joints(x, 0), "100 102 102 101");
    }

    private static void oneJointMore(Check check) {
        for (int links : new int[] {1, 2, 19, 20}) {
            HangingChain x = Check.shaped("^".repeat(links));
            check.same("the last joint of " + links, x.joint(links, 0), 100 + links);
            check.refuses("a joint more, of " + links, x, INDEX, () -> x.joint(links + 1, 0));
            check.refuses("the joint -1, of " + links, x, INDEX, () -> x.joint(-1, 0));
        }
    }

    private static void sorts(Check check) {
        HangingChain x = new HangingChain();
        for (int step = -2; step <= 2; step++) {
            x.bend(0, step);
            check.same("the step", x.linkOf(0, 0), step + 2);
            check.same("the height behind it", x.joint(1, 0), step + 100);
        }
    }

    private static void heightOfTheJoint0(Check check) {
        HangingChain x = Check.shaped("v2v2v2");
        check.same("the joint 0 of v2v2v2", x.joint(0, 0), 100);
        x.turn();
        check.same("the joint 0, turned", x.joint(0, 0), 100);
        x.cut(0);
        check.same("the joint 0, the link 0 cut", x.joint(0, 0), 100);
        x.bend(0, 1);
        check.same("the joint 0, the link 0 bent", x.joint(0, 0), 100);
    }

    private static void greatestHeights(Check check) {
        check.same("the least height", Check.shaped("v2".repeat(20)).joint(20, 0), 60);
        check.same("the greatest height", Check.shaped("^2".repeat(20)).joint(20, 0), 140);
        check.text("heights of all sorts", Check.joints(Check.shaped("v2v=^^2"), 0), "100 98 97 97 98 100");
    }

    /** One of weight, hanger and prop. */
    private interface Change {
        int of(HangingChain x, int joint, int amount);
    }

    private static void weight(Check check) {
        amount(check, 1, HangingChain::weight);
    }

    private static void hanger(Check check) {
        amount(check, 2, HangingChain::hanger);
    }

    private static void prop(Check check) {
        amount(check, 3, HangingChain::prop);
    }

    private static void amount(Check check, int what, Change change) {
        HangingChain x = new HangingChain();
        check.text("at first", Check.joints(x, what), "0 0");
        x.link(0);
        check.text("at first, one more", Check.joints(x, what), "0 0 0");
        for (int amount : new int[] {0, 1, 98, 99}) {
            change.of(x, 1, amount);
            check.text("changed to " + amount, Check.joints(x, what), "0 " + amount + " 0");
        }
        check.refuses("100", x, ARGUMENT, () -> change.of(x, 1, 100));
        check.refuses("-1", x, ARGUMENT, () -> change.of(x, 1, -1));
    }

    private static void lastJointIsAtTheWall(Check check) {
        HangingChain x = Check.shaped("=[10]");
        check.text("burdens of one link", Check.joints(x, 4), "0 0");
        x.link(0);
        check.text("burdens, the last joint no longer the last", Check.joints(x, 4), "0 12 0");
        x.weight(2, 20);
        x.link(0);
        check.text("burdens, one more", Check.joints(x, 4), "0 12 22 0");
        x.cut(2);
        check.text("burdens, the last joint cut", Check.joints(x, 4), "0 12 0");
        x.weight(0, 30);
        x.turn();
        check.text("burdens, turned", Check.joints(x, 4), "0 12 0");
    }

    private static void wallsCountForNothing(Check check) {
        HangingChain one = new HangingChain();
        loadWalls(one, 1);
        check.text("loads of one link", Check.joints(one, 7), "0 0");
        check.same("borne ahead by one link", one.count(3), 0);
        check.same("the greatest force of one link", one.count(5), 0);
        HangingChain x = Check.shaped("=[10]=[20]=");
        loadWalls(x, 3);
        for (int what = 4; what <= 6; what++) {
            String due = what == 4 ? "0 12 22 0" : "0 0 0 0";
            check.text("number " + what, Check.joints(x, what), due);
        }
        check.text("loads", Check.joints(x, 7), "0 12 22 0");
        check.same("ahead", x.count(3), 16);
        check.same("behind", x.count(4), 18);
        check.text("forces", Check.forces(x), "16 4 18");
    }

    private static void loadWalls(HangingChain x, int last) {
        x.set(1, 40);
        for (int joint = 0; joint <= last; joint += last) {
            x.weight(joint, 99);
            x.hanger(joint, 50);
            x.prop(joint, 40);
        }
    }

    private static void burden(Check check) {
        HangingChain x = Check.shaped("==[5]==");
        x.set(0, 0);
        check.text("burdens without links' weight", Check.joints(x, 4), "0 0 5 0 0");
        x.set(0, 1);
        check.text("burdens", Check.joints(x, 4), "0 2 7 2 0");
        x.set(0, 20);
        x.weight(2, 99);
        check.text("the greatest burdens", Check.joints(x, 4), "0 40 139 40 0");
    }

    private static void hangerTakes(Check check) {
        HangingChain x = Check.shaped("=[10]=");
        int[] holds = {0, 1, 11, 12, 13, 99};
        int[] takes = {0, 1, 11, 12, 12, 12};
        for (int k = 0; k < holds.length; k++) {
            x.hanger(1, holds[k]);
            check.same("a hanger for " + holds[k] + " takes of 12", x.joint(1, 5), takes[k]);
            check.same("and leaves", x.joint(1, 7), 12 - takes[k]);
        }
    }

    private static void propTakes(Check check) {
        HangingChain x = Check.shaped("=[10]=");
        x.set(1, 0);
        x.hanger(1, 7);
        int[] holds = {0, 1, 4, 5, 6, 99};
        int[] takes = {0, 1, 4, 5, 5, 5};
        for (int k = 0; k < holds.length; k++) {
            x.prop(1, holds[k]);
            check.same("a prop for " + holds[k] + " takes of 5", x.joint(1, 6), takes[k]);
            check.same("and leaves", x.joint(1, 7), 5 - takes[k]);
        }
        x.hanger(1, 11);
        check.same("a prop takes of 1", x.joint(1, 6), 1);
        x.hanger(1, 12);
        check.same("a prop takes of nothing", x.joint(1, 6), 0);
        check.same("the hanger first", x.joint(1, 5), 12);
    }

    private static void propReaches(Check check) {
        HangingChain x = Check.shaped("v2^^^^");
        for (int joint = 0; joint <= 5; joint++) {
            x.prop(joint, 1);
        }
        check.text("heights", Check.joints(x, 0), "100 98 99 100 101 102");
        String[] due = {"0 0 0 0 0 0", "0 1 0 0 0 0", "0 1 1 0 0 0", "0 1 1 1 0 0", "0 1 1 1 1 0"};
        for (int reach = -3; reach <= 1; reach++) {
            x.set(1, reach);
            check.text("props take, up to " + reach, Check.joints(x, 6), due[reach + 3]);
        }
    }

    private static void load(Check check) {
        HangingChain x = Check.shaped("v2[10]=[10]=[10]=[10]=");
        x.hanger(2, 5);
        x.prop(3, 4);
        x.hanger(4, 5);
        x.prop(4, 4);
        check.text("loads", Check.joints(x, 7), "0 12 7 8 3 0");
        x.prop(4, 7);
        check.text("loads, just nothing left", Check.joints(x, 7), "0 12 7 8 0 0");
        x.prop(4, 8);
        check.text("loads, more held than is there", Check.joints(x, 7), "0 12 7 8 0 0");
    }

    private static void eachLoadIsRounded(Check check) {
        String[] shapes = {"=[1]=[1]=", "=[2]=[2]=", "=[3]=[3]=", "=[1]==", "==[1]=", "=[2]=", "=[1]="};
        int[] behind = {0, 1, 3, 0, 0, 1, 0};
        int[] ahead = {2, 3, 3, 1, 1, 1, 1};
        for (int k = 0; k < shapes.length; k++) {
            HangingChain x = Check.shaped(shapes[k]);
            x.set(0, 0);
            check.same("behind, of " + shapes[k], x.count(4), behind[k]);
            check.same("ahead, of " + shapes[k], x.count(3), ahead[k]);
        }
    }

    private static void wallsBear(Check check) {
        HangingChain x = Check.shaped("v[10]v[20]^[30]^");
        check.same("ahead", x.count(3), 9 + 11 + 8);
        check.same("behind", x.count(4), 3 + 11 + 24);
        HangingChain full = Check.shaped("=".repeat(20));
        full.set(0, 20);
        for (int joint = 0; joint <= 20; joint++) {
            full.weight(joint, 99);
        }
        check.same("the most ahead", full.count(3), 1330);
        check.same("the most behind", full.count(4), 1311);
        check.same("no load", new HangingChain().count(3), 0);
        check.same("no load", new HangingChain().count(4), 0);
    }

    private static void forceWithoutSign(Check check) {
        HangingChain x = Check.shaped("=[8]==[8]=");
        x.set(0, 0);
        check.text("forces 8, 0, 0, -8", Check.forces(x), "8 0 0 8");
        x.weight(3, 9);
        check.text("forces 9, 1, 1, -8", Check.forces(x), "9 1 1 8");
        x.weight(3, 11);
        check.text("forces 9, 1, 1, -10", Check.forces(x), "9 1 1 10");
        x.weight(3, 15);
        check.text("forces 10, 2, 2, -13", Check.forces(x), "10 2 2 13");
        x.weight(2, 6);
        check.text("forces 13, 5, -1, -16", Check.forces(x), "13 5 1 16");
    }

    private static void forceLessLoads(Check check) {
        HangingChain x = Check.shaped("=[10]=[20]=[30]=");
        check.text("forces", Check.forces(x), "28 16 6 38");
        x.hanger(1, 12);
        check.text("forces, the joint 1 without load", Check.forces(x), "19 19 3 35");
        HangingChain one = Check.shaped("^[99]");
        check.text("the force of one link is by its step alone", Check.forces(one), "1");
    }

    private static void forceByStep(Check check) {
        HangingChain x = Check.shaped("v2v=^^2");
        x.set(0, 0);
        x.set(2, 20);
        check.text("forces of 20 by a step", Check.forces(x), "40 20 0 20 40");
        x.set(2, 1);
        check.text("forces of 1 by a step", Check.forces(x), "2 1 0 1 2");
        x.set(2, 0);
        check.text("forces of 0 by a step", Check.forces(x), "0 0 0 0 0");
        HangingChain loaded = Check.shaped("v2[8]=^[8]^2");
        loaded.set(0, 0);
        check.text("both together", Check.forces(loaded), "10 0 1 10");
    }

    private static void breaksAbove(Check check) {
        HangingChain x = Check.shaped("=[8]==[8]=");
        x.set(0, 0);
        x.set(3, 8);
        check.text("forces of 8 at 8", Check.links(x, 2), "0 0 0 0");
        check.same("none breaks", x.count(6), 0);
        x.set(3, 7);
        check.text("forces of 8 at 7", Check.links(x, 2), "1 0 0 1");
        check.same("two break", x.count(6), 2);
        x.set(3, 9);
        check.text("forces of 8 at 9", Check.links(x, 2), "0 0 0 0");
    }

    private static void holdsIfNoneBreaks(Check check) {
        HangingChain x = Check.shaped("=[10]==[10]=");
        x.set(0, 0);
        check.text("forces", Check.forces(x), "11 1 1 9");
        x.set(3, 11);
        check.same("none breaks", x.count(7), 1);
        x.set(3, 10);
        check.same("the first one alone breaks", x.count(7), 0);
        x.turn();
        check.text("forces, turned", Check.forces(x), "11 1 1 9");
        x.weight(1, 5);
        check.text("forces, less at the first", Check.forces(x), "7 2 2 8");
        x.set(3, 7);
        check.same("the last one alone breaks", x.count(7), 0);
        x.set(3, 8);
        check.same("none breaks again", x.count(7), 1);
    }

    private static void setting(Check check, int setting, int least, int most, int first) {
        HangingChain x = new HangingChain();
        check.same("at first", x.setting(setting), first + 100);
        for (int value : new int[] {least, least + 1, most - 1, most}) {
            x.set(setting, value);
            check.same("set to " + value, x.setting(setting), value + 100);
        }
        for (int value : new int[] {Integer.MIN_VALUE, least - 1, most + 1, Integer.MAX_VALUE}) {
            check.refuses("set to " + value, x, ARGUMENT, () -> x.set(setting, value));
        }
    }

    private static void halfLinksWeigh(Check check) {
        HangingChain x = Check.shaped("==");
        for (int half : new int[] {0, 1, 20}) {
            x.set(0, half);
            check.same("the load of two halves of " + half, x.joint(1, 7), 2 * half);
        }
    }

    private static void propsReach(Check check) {
        HangingChain x = Check.shaped("^2".repeat(20));
        x.prop(19, 1);
        int[] reaches = {40, 38, 37, -40};
        int[] takes = {1, 1, 0, 0};
        for (int k = 0; k < reaches.length; k++) {
            x.set(1, reaches[k]);
            check.same("at the height 38, up to " + reaches[k], x.joint(19, 6), takes[k]);
        }
        x.turn();
        x.prop(19, 1);
        int[] lowReaches = {-40, -39, -38, -37};
        int[] lowTakes = {0, 0, 1, 1};
        for (int k = 0; k < lowReaches.length; k++) {
            x.set(1, lowReaches[k]);
            check.same("at the height -38, up to " + lowReaches[k], x.joint(19, 6), lowTakes[k]);
        }
    }

    private static void greatestForces(Check check) {
        HangingChain x = Check.shaped("^2");
        x.set(3, 1);
        check.same("2 breaks at 1", x.linkOf(0, 2), 1);
        x.set(3, 2);
        check.same("2 does not break at 2", x.linkOf(0, 2), 0);
        HangingChain full = Check.shaped("=".repeat(20));
        full.set(0, 17);
        full.set(3, 999);
        for (int joint = 1; joint <= 19; joint++) {
            full.weight(joint, 70);
        }
        check.same("the greatest force", full.count(5), 996);
        full.set(2, 3);
        full.bend(0, -1);
        check.same("the greatest force, bent", full.count(5), 999);
        check.same("999 does not break at 999", full.count(6), 0);
        full.set(2, 4);
        check.same("1000 breaks at 999", full.count(6), 1);
    }
}
