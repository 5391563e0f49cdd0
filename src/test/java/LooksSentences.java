/** Trials of the promises 16 to 19. */
final class LooksSentences {
    private static final Class<IndexOutOfBoundsException> INDEX = IndexOutOfBoundsException.class;
    private static final Class<IllegalArgumentException> ARGUMENT = IllegalArgumentException.class;
    private static final int[] SIZES = {1, 2, 19, 20};

    static void tell(Sentences s) {
        linkOf(s);
        joint(s);
        count(s);
        s.under("Promise 19");
        s.hold("Returns a setting.", LooksSentences::settingOfEach);
        s.hold("- `setting`: 0 to 3", LooksSentences::settingFirstAndLast);
        s.hold("Returns its value, with 100 more.", LooksSentences::settingTellsMore);
        s.hold("Throws `IndexOutOfBoundsException` if there is no such setting", LooksSentences::noSetting);
    }

    private static void linkOf(Sentences s) {
        s.under("Promise 16");
        s.hold("Returns something of a link.", LooksSentences::linkOfIsNew);
        s.hold("- `link`: its number", LooksSentences::linkOfFirstAndLast);
        s.hold("0: its step, with 2 more", LooksSentences::steps);
        s.hold("1: its force", LooksSentences::forces);
        s.hold("2: 1 if it breaks, otherwise 0", LooksSentences::breaks);
        s.hold("Returns the number.", LooksSentences::linkOfEach);
        s.hold("Throws `IndexOutOfBoundsException` if there is no such link", LooksSentences::linkOfNoLink);
        s.hold("Throws `IllegalArgumentException` if what is not 0 to 2", LooksSentences::linkOfNoWhat);
    }

    private static void joint(Sentences s) {
        s.under("Promise 17");
        s.hold("Returns something of a joint.", LooksSentences::jointIsNew);
        s.hold("- `joint`: its number", LooksSentences::jointFirstAndLast);
        s.hold("0: its height, with 100 more", LooksSentences::heights);
        s.hold("1: its weight; 2: what its hanger holds; 3: what its prop holds", LooksSentences::whatJointsHave);
        s.hold("4: its burden; 5: what its hanger takes; 6: what its prop takes; 7: its load",
            LooksSentences::whatJointsBear);
        s.hold("4: its burden; 5: what its hanger takes; 6: what its prop takes; 7: its load",
            LooksSentences::whatTheLastOf20Bears);
        s.hold("(4 to 7: 0 at the walls)", LooksSentences::nothingAtTheWalls);
        s.hold("Returns the number.", LooksSentences::jointEach);
        s.hold("Throws `IndexOutOfBoundsException` if there is no such joint", LooksSentences::jointNoJoint);
        s.hold("Throws `IllegalArgumentException` if what is not 0 to 7", LooksSentences::jointNoWhat);
    }

    private static void count(Sentences s) {
        s.under("Promise 18");
        s.hold("Returns a number.", LooksSentences::countIsNew);
        s.hold("Returns a number.", LooksSentences::countBehindALongerChain);
        s.hold("- `what`: 0: links", LooksSentences::countLinks);
        s.hold("1: weights of all joints together", LooksSentences::countWeights);
        s.hold("2: loads together; 3: what the wall at the joint 0 bears; 4: what the other wall bears",
            LooksSentences::countLoads);
        s.hold("5: the greatest force; 6: links that break; 7: 1 if the chain holds, otherwise 0",
            LooksSentences::countBroken);
        s.hold("8: the lowest joint, of several the one with the lowest number", LooksSentences::lowest);
        s.hold("9: its height, with 100 more", LooksSentences::lowestHeight);
        s.hold("10: saved states", LooksSentences::countSaved);
        s.hold("Returns the number.", LooksSentences::countEach);
        s.hold("Throws `IllegalArgumentException` if what is not 0 to 10", LooksSentences::countNoWhat);
    }

    /** Four links; the heights of their joints are 0, -1, -2, -1, 0. */
    private static HangingChain laden() {
        HangingChain x = Check.shaped("v[10]v[20]^[30]^[4]");
        x.hanger(1, 5);
        x.prop(2, 6);
        return x;
    }

    /** Each change is told by the look that comes next. */
    private static void linkOfIsNew(Check check) {
        HangingChain x = laden();
        check.same("the force", x.linkOf(0, 1), 23);
        x.weight(1, 14);
        check.same("the force, more weight", x.linkOf(0, 1), 26);
        x.undo();
        check.same("the force, undone", x.linkOf(0, 1), 23);
        x.bend(0, -2);
        check.same("the force, bent", x.linkOf(0, 1), 24);
        x.ifWeight(1, 99);
        check.same("the force behind ifWeight", x.linkOf(0, 1), 24);
        x.turn();
        check.same("the force, turned", x.linkOf(3, 1), 23);
    }

    private static void linkOfFirstAndLast(Check check) {
        for (int links : SIZES) {
            HangingChain x = Check.shaped("=".repeat(links));
            x.bend(0, 1);
            x.bend(links - 1, -2);
            check.same("the last of " + links, x.linkOf(links - 1, 0), 0);
            check.same("the first of " + links, x.linkOf(0, 0), links == 1 ? 0 : 3);
        }
    }

    private static void steps(Check check) {
        check.text("steps", Check.links(Check.shaped("v2v=^^2"), 0), "0 1 2 3 4");
    }

    private static void forces(Check check) {
        check.text("forces", Check.forces(laden()), "23 16 2 34");
        check.text("no force", Check.forces(new HangingChain()), "0");
        HangingChain x = Check.shaped("=".repeat(20));
        x.set(0, 20);
        for (int joint = 1; joint < 20; joint++) {
            x.weight(joint, 99);
        }
        check.same("the greatest of all", x.linkOf(0, 1), 1330);
        check.same("the least of these", x.linkOf(10, 1), 60);
        check.same("the last of these", x.linkOf(19, 1), 1311);
    }

    private static void breaks(Check check) {
        HangingChain x = laden();
        x.set(3, 23);
        check.text("at 23", Check.links(x, 2), "0 0 0 1");
        x.set(3, 22);
        check.text("at 22", Check.links(x, 2), "1 0 0 1");
        x.set(3, 34);
        check.text("at 34", Check.links(x, 2), "0 0 0 0");
        x.set(3, 1);
        check.text("at 1", Check.links(x, 2), "1 1 1 1");
    }

    private static void linkOfEach(Check check) {
        HangingChain x = laden();
        check.same("linkOf(3, 0)", x.linkOf(3, 0), 3);
        check.same("linkOf(3, 1)", x.linkOf(3, 1), 34);
        check.same("linkOf(3, 2)", x.linkOf(3, 2), 0);
    }

    private static void linkOfNoLink(Check check) {
        for (int links : SIZES) {
            HangingChain x = Check.shaped("=".repeat(links));
            for (int link : new int[] {Integer.MIN_VALUE, -1, links, 20, Integer.MAX_VALUE}) {
                for (int what = 0; what <= 2; what++) {
                    int one = what;
                    check.refuses("linkOf(" + link + ", " + what + ")", x, INDEX, () -> x.linkOf(link, one));
                }
            }
        }
    }

    private static void linkOfNoWhat(Check check) {
        HangingChain x = laden();
        for (int what : new int[] {Integer.MIN_VALUE, -1, 3, 4, Integer.MAX_VALUE}) {
            check.refuses("linkOf(0, " + what + ")", x, ARGUMENT, () -> x.linkOf(0, what));
            check.refuses("linkOf(3, " + what + ")", x, ARGUMENT, () -> x.linkOf(3, what));
        }
    }

    private static void jointIsNew(Check check) {
        HangingChain x = laden();
        check.same("the height", x.joint(4, 0), 100);
        x.bend(0, 2);
        check.same("the height, bent", x.joint(4, 0), 103);
        check.same("what the prop takes, no longer reaching", x.joint(2, 6), 0);
        x.undo();
        check.same("what the prop takes, undone", x.joint(2, 6), 6);
        x.bestStep(0);
        check.same("what the prop takes behind bestStep", x.joint(2, 6), 6);
        x.mostWeight(2);
        check.same("the burden behind mostWeight", x.joint(2, 4), 22);
    }

    private static void jointFirstAndLast(Check check) {
        for (int links : SIZES) {
            HangingChain x = Check.shaped("v".repeat(links) + "[7]");
            x.weight(0, 3);
            check.same("the joint 0 of " + links, x.joint(0, 1), 3);
            check.same("the last joint of " + links, x.joint(links, 1), 7);
            check.same("its height", x.joint(links, 0), 100 - links);
        }
    }

    private static void heights(Check check) {
        check.text("heights", Check.joints(laden(), 0), "100 99 98 99 100");
        check.same("the least of all", Check.shaped("v2".repeat(20)).joint(20, 0), 60);
        check.same("the greatest of all", Check.shaped("^2".repeat(20)).joint(20, 0), 140);
    }

    private static void whatJointsHave(Check check) {
        HangingChain x = laden();
        x.hanger(4, 99);
        x.prop(0, 98);
        check.text("weights", Check.joints(x, 1), "0 10 20 30 4");
        check.text("hangers", Check.joints(x, 2), "0 5 0 0 99");
        check.text("props", Check.joints(x, 3), "98 0 6 0 0");
    }

    private static void whatJointsBear(Check check) {
        HangingChain x = laden();
        x.hanger(3, 99);
        x.hanger(2, 20);
        check.text("burdens", Check.joints(x, 4), "0 12 22 32 0");
        check.text("hangers take", Check.joints(x, 5), "0 5 20 32 0");
        check.text("props take", Check.joints(x, 6), "0 0 2 0 0");
        check.text("loads", Check.joints(x, 7), "0 7 0 0 0");
    }

    private static void whatTheLastOf20Bears(Check check) {
        HangingChain x = Check.shaped("v2".repeat(19) + "[99]v2");
        x.set(0, 20);
        x.hanger(19, 99);
        x.prop(19, 30);
        int[] due = {62, 99, 99, 30, 139, 99, 30, 10};
        for (int what = 0; what <= 7; what++) {
            check.same("joint(19, " + what + ")", x.joint(19, what), due[what]);
        }
    }

    private static void nothingAtTheWalls(Check check) {
        for (int links : SIZES) {
            HangingChain x = Check.shaped("v2".repeat(links));
            x.set(0, 20);
            x.set(1, 40);
            for (int joint = 0; joint <= links; joint += links) {
                x.weight(joint, 99);
                x.hanger(joint, 7);
                x.prop(joint, 8);
                for (int what = 4; what <= 7; what++) {
                    check.same("joint(" + joint + ", " + what + ") of " + links, x.joint(joint, what), 0);
                }
            }
        }
    }

    private static void jointEach(Check check) {
        HangingChain x = laden();
        x.hanger(2, 9);
        int[] due = {98, 20, 9, 6, 22, 9, 6, 7};
        for (int what = 0; what <= 7; what++) {
            check.same("joint(2, " + what + ")", x.joint(2, what), due[what]);
        }
    }

    private static void jointNoJoint(Check check) {
        for (int links : SIZES) {
            HangingChain x = Check.shaped("=".repeat(links));
            for (int joint : new int[] {Integer.MIN_VALUE, -1, links + 1, 21, Integer.MAX_VALUE}) {
                for (int what = 0; what <= 7; what++) {
                    int one = what;
                    check.refuses("joint(" + joint + ", " + what + ")", x, INDEX, () -> x.joint(joint, one));
                }
            }
        }
    }

    private static void jointNoWhat(Check check) {
        HangingChain x = laden();
        for (int what : new int[] {Integer.MIN_VALUE, -1, 8, 9, Integer.MAX_VALUE}) {
            check.refuses("joint(0, " + what + ")", x, ARGUMENT, () -> x.joint(0, what));
            check.refuses("joint(4, " + what + ")", x, ARGUMENT, () -> x.joint(4, what));
        }
    }

    private static void countIsNew(Check check) {
        HangingChain x = laden();
        check.same("the greatest force", x.count(5), 34);
        x.weight(3, 0);
        check.same("the greatest force, less weight", x.count(5), 16);
        x.undo();
        check.same("the greatest force, undone", x.count(5), 34);
        x.bestHanger(99);
        check.same("the greatest force behind bestHanger", x.count(5), 34);
        x.bestMove(3);
        check.same("the loads behind bestMove", x.count(2), 55);
        x.bestStep(0);
        check.same("the lowest joint behind bestStep", x.count(9), 98);
    }

    /** Nothing of links and joints that are no longer there may count. */
    private static void countBehindALongerChain(Check check) {
        int[] due = {1, 0, 0, 0, 0, 2, 1, 0, 0, 100};
        for (int way = 0; way <= 2; way++) {
            HangingChain x = new HangingChain();
            x.set(3, 1);
            x.bend(0, 2);
            Check.type(x, "v2[90]".repeat(10));
            x.shape();
            check.same("links that break", x.count(6), 10);
            check.same("the lowest", x.count(8), 10);
            shorten(x, way);
            for (int what = 0; what <= 9; what++) {
                check.same("count(" + what + "), shortened, " + way, x.count(what), due[what]);
            }
            check.text("forces, shortened", Check.forces(x), "2");
        }
    }

    /** Leaves one link that goes up by 2, without any weight. */
    private static void shorten(HangingChain x, int way) {
        if (way == 0) {
            x.undo();
        } else if (way == 1) {
            Check.type(x, "^2");
            x.shape();
        } else {
            for (int links = 10; links > 1; links--) {
                x.cut(links - 1);
            }
            x.bend(0, 2);
            x.weight(1, 0);
        }
    }

    private static void countLinks(Check check) {
        for (int links : SIZES) {
            check.same("links", Check.shaped("v2".repeat(links)).count(0), links);
        }
    }

    private static void countWeights(Check check) {
        HangingChain x = new HangingChain();
        check.same("weights of a new object", x.count(1), 0);
        x.weight(0, 5);
        check.same("with a weight at the joint 0", x.count(1), 5);
        x.weight(1, 7);
        check.same("with a weight at the last joint", x.count(1), 12);
        x.link(0);
        x.weight(2, 9);
        check.same("with three", x.count(1), 21);
        x.cut(1);
        check.same("with the last one cut", x.count(1), 12);
        HangingChain all = Check.shaped("=".repeat(20));
        for (int joint = 0; joint <= 20; joint++) {
            all.weight(joint, 99);
        }
        check.same("the most", all.count(1), 2079);
    }

    private static void countLoads(Check check) {
        HangingChain x = laden();
        check.same("loads", x.count(2), 7 + 16 + 32);
        check.same("ahead", x.count(3), 6 + 8 + 8);
        check.same("behind", x.count(4), 1 + 8 + 24);
        for (int what = 2; what <= 5; what++) {
            check.same("count(" + what + ") of a new object", new HangingChain().count(what), 0);
        }
    }

    private static void countBroken(Check check) {
        HangingChain x = laden();
        int[] limits = {34, 33, 23, 22, 16, 15, 2, 1};
        int[] broken = {0, 1, 1, 2, 2, 3, 3, 4};
        for (int k = 0; k < limits.length; k++) {
            x.set(3, limits[k]);
            check.same("the greatest force", x.count(5), 34);
            check.same("links that break at " + limits[k], x.count(6), broken[k]);
            check.same("holds at " + limits[k], x.count(7), broken[k] == 0 ? 1 : 0);
        }
    }

    private static void lowest(Check check) {
        String[] shapes = {"=", "v", "^", "===", "v==", "vv^v", "v^v^", "^v^v", "^vv", "^^v2", "v2^2v2", "^v=v=",
            "=".repeat(20), "v".repeat(20), "^".repeat(20), "=".repeat(19) + "v", "^2".repeat(10) + "v2".repeat(10)};
        int[] due = {0, 1, 0, 0, 1, 2, 1, 0, 3, 0, 1, 4, 0, 20, 0, 20, 0};
        for (int k = 0; k < shapes.length; k++) {
            check.same("the lowest of " + shapes[k], Check.shaped(shapes[k]).count(8), due[k]);
        }
    }

    private static void lowestHeight(Check check) {
        String[] shapes = {"=", "v", "^", "v==", "vv^v", "^vv", "^v=v=", "v2".repeat(20), "^2".repeat(20)};
        int[] due = {100, 99, 100, 99, 98, 99, 99, 60, 100};
        for (int k = 0; k < shapes.length; k++) {
            check.same("the lowest height of " + shapes[k], Check.shaped(shapes[k]).count(9), due[k]);
        }
    }

    private static void countSaved(Check check) {
        HangingChain x = new HangingChain();
        for (int saves = 0; saves <= 8; saves++) {
            check.same("saved states", x.count(10), Math.min(6, saves));
            x.turn();
        }
        x.undo();
        check.same("saved states, one undone", x.count(10), 5);
    }

    private static void countEach(Check check) {
        HangingChain x = laden();
        x.set(3, 23);
        int[] due = {4, 64, 55, 22, 33, 34, 1, 0, 2, 98, 4};
        for (int what = 0; what <= 10; what++) {
            check.same("count(" + what + ")", x.count(what), due[what]);
        }
    }

    private static void countNoWhat(Check check) {
        HangingChain x = laden();
        for (int what : new int[] {Integer.MIN_VALUE, -1, 11, 12, Integer.MAX_VALUE}) {
            check.refuses("count(" + what + ")", x, ARGUMENT, () -> x.count(what));
        }
    }

    private static void settingOfEach(Check check) {
        HangingChain x = new HangingChain();
        int[] first = {101, 98, 101, 160};
        for (int setting = 0; setting <= 3; setting++) {
            check.same("at first", x.setting(setting), first[setting]);
            x.set(setting, 10 + setting);
        }
        for (int setting = 0; setting <= 3; setting++) {
            check.same("set", x.setting(setting), 110 + setting);
        }
        x.undo();
        check.same("undone", x.setting(3), 160);
    }

    private static void settingFirstAndLast(Check check) {
        HangingChain x = new HangingChain();
        check.same("setting(0)", x.setting(0), 101);
        check.same("setting(3)", x.setting(3), 160);
    }

    private static void settingTellsMore(Check check) {
        int[] least = {0, -40, 0, 1};
        int[] most = {20, 40, 20, 999};
        HangingChain x = new HangingChain();
        for (int setting = 0; setting <= 3; setting++) {
            x.set(setting, least[setting]);
            check.same("the least of " + setting, x.setting(setting), least[setting] + 100);
            x.set(setting, most[setting]);
            check.same("the greatest of " + setting, x.setting(setting), most[setting] + 100);
        }
    }

    private static void noSetting(Check check) {
        HangingChain x = new HangingChain();
        for (int setting : new int[] {Integer.MIN_VALUE, -1, 4, 5, Integer.MAX_VALUE}) {
            check.refuses("setting(" + setting + ")", x, INDEX, () -> x.setting(setting));
        }
    }
}
