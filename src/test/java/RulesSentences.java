import java.util.function.Consumer;
import java.util.function.Supplier;

/** Trials of the terms 'Input text', 'Undo' and 'Exceptions'. */
final class RulesSentences {
    private static final Class<IndexOutOfBoundsException> INDEX = IndexOutOfBoundsException.class;
    private static final Class<IllegalArgumentException> ARGUMENT = IllegalArgumentException.class;
    private static final Class<IllegalStateException> STATE = IllegalStateException.class;

    static void tell(Sentences s) {
        texts(s);
        undo(s);
        exceptions(s);
    }

    private static void texts(Sentences s) {
        s.under("Input text");
        s.hold("The buffer has at most 60 characters.", RulesSentences::atMost60);
        s.hold("A shape as a text is 1 to 20 links, one behind the other", RulesSentences::oneTo20Links);
        s.hold("each \"=\" (level), \"^\" (up by 1), \"^2\" (up by 2), \"v\" (down by 1) or \"v2\" (down by 2)",
            RulesSentences::eachSort);
        s.hold("and behind that perhaps \"[\", a weight, 1 to 99, without a leading zero, and \"]\"",
            RulesSentences::weightInBrackets);
        s.hold("the weight at the joint behind the link", RulesSentences::weightBehindItsLink);
        s.hold("The buffer is read from left to right", RulesSentences::firstOfSeveralErrors);
        s.hold("a character is a syntax error if no shape as a text begins with the characters before it and "
            + "this character", RulesSentences::noShapeBegins);
        s.hold("a character is a syntax error if no shape as a text begins with the characters before it and "
            + "this character", RulesSentences::shapesLongerThanTheBuffer);
    }

    private static void undo(Sentences s) {
        s.under("Undo");
        s.hold("Each method that is marked \"undoable\"", RulesSentences::eachSaves);
        s.hold("and does not throw an exception saves the state from before it", RulesSentences::refusedSavesNothing);
        s.hold("saves the state from before it (also if it changes nothing)", RulesSentences::savesUnchanged);
        s.hold("Each method that is marked \"undoable\"", RulesSentences::othersSaveNothing);
        s.hold("all, but the buffer and the saved states", RulesSentences::all);
        s.hold("all, but the buffer and the saved states", RulesSentences::notTheBuffer);
        s.hold("all, but the buffer and the saved states", RulesSentences::notTheSavedStates);
        s.hold("At most 6 states are saved", RulesSentences::atMost6);
        s.hold("the oldest one is dropped first", RulesSentences::oldestIsDropped);
        s.hold("the oldest one is dropped first", RulesSentences::droppedAgainAndAgain);
    }

    private static void exceptions(Sentences s) {
        s.under("Exceptions");
        s.hold("A call that throws an exception changes nothing.", RulesSentences::refusedOfOneLink);
        s.hold("A call that throws an exception changes nothing.", RulesSentences::refusedOf20Links);
        s.hold("A call that throws an exception changes nothing.", RulesSentences::refusedTexts);
        s.hold("If several exceptions apply, the one that is named first in the throws clause is thrown.",
            RulesSentences::firstOfSeveralExceptions);
        s.hold("The constants: `NONE = -1`: There is nothing to return.", RulesSentences::none);
        s.hold("the interface says: ---- looks; nothing is changed.", RulesSentences::looksChangeNothing);
        s.hold("the interface says: ---- what would be; nothing is changed.",
            RulesSentences::whatWouldBeChangesNothing);
    }

    private static void atMost60(Check check) {
        HangingChain x = new HangingChain();
        for (int length = 1; length <= 60; length++) {
            check.same("append", x.append('v'), length);
        }
        check.refuses("append the character 61", x, STATE, () -> x.append('v'));
        check.same("its length", x.clearBuffer(), 60);
        check.same("append behind it", x.append('v'), 1);
    }

    private static void oneTo20Links(Check check) {
        HangingChain x = new HangingChain();
        check.refuses("no link", x, ARGUMENT, x::shape);
        for (int links : new int[] {1, 2, 19, 20}) {
            check.same(links + " links", Check.shaped("v2".repeat(links)).count(0), links);
        }
        for (String text : new String[] {"=".repeat(21), "^".repeat(21), "v2".repeat(20) + "v", "=".repeat(60)}) {
            HangingChain longer = Check.typed(text);
            check.refuses("21 links, " + text, longer, ARGUMENT, longer::shape);
        }
        errorAt(check, "=".repeat(20), 20);
        errorAt(check, "=".repeat(21), 20);
        errorAt(check, "v2".repeat(20) + "v", 40);
        errorAt(check, "^[1]" + "=".repeat(20), 23);
    }

    private static void eachSort(Check check) {
        check.text("=", Check.steps(Check.shaped("=")), "0");
        check.text("^", Check.steps(Check.shaped("^")), "1");
        check.text("^2", Check.steps(Check.shaped("^2")), "2");
        check.text("v", Check.steps(Check.shaped("v")), "-1");
        check.text("v2", Check.steps(Check.shaped("v2")), "-2");
        check.text("vv2^^2=v", Check.steps(Check.shaped("vv2^^2=v")), "-1 -2 1 2 0 -1");
        for (String text : new String[] {"=2", "^1", "^3", "^0", "v1", "v3", "v0", "^22", "v22", "^2^22"}) {
            errorAt(check, text, text.length() - 1);
        }
        for (String text : new String[] {"2", "1", "0", "V", "-", "_", "<", ">", "~", "!", "u", "w", "]"}) {
            errorAt(check, text, 0);
            errorAt(check, "=" + text, 1);
        }
    }

    private static void weightInBrackets(Check check) {
        for (int weight = 1; weight <= 99; weight++) {
            for (String link : new String[] {"=", "^", "^2", "v", "v2"}) {
                check.same("the weight " + weight, Check.shaped(link + "[" + weight + "]").joint(1, 1), weight);
            }
        }
        check.same("no weight", Check.shaped("=").joint(1, 1), 0);
        errorAt(check, "=[0]", 2);
        errorAt(check, "=[01]", 2);
        errorAt(check, "=[00]", 2);
        errorAt(check, "=[100]", 4);
        errorAt(check, "=[990]", 4);
        errorAt(check, "=[]", 2);
        errorAt(check, "=[[", 2);
        errorAt(check, "=[-1]", 2);
        errorAt(check, "=[5][5]", 4);
        errorAt(check, "=[5]2", 4);
        errorAt(check, "=[5]]", 4);
        errorAt(check, "[5]=", 0);
        errorAt(check, "=5]", 1);
        errorAt(check, "=[5=", 3);
        errorAt(check, "=[5^", 3);
        errorAt(check, "=[10=", 4);
    }

    private static void weightBehindItsLink(Check check) {
        check.text("=[7]", Check.joints(Check.shaped("=[7]"), 1), "0 7");
        check.text("=[1]v2=[98]^[99]", Check.joints(Check.shaped("=[1]v2=[98]^[99]"), 1), "0 1 0 98 99");
        HangingChain x = Check.shaped("=".repeat(20) + "[40]");
        check.same("at the joint 20", x.joint(20, 1), 40);
        check.same("all weights", x.count(1), 40);
    }

    private static void firstOfSeveralErrors(Check check) {
        errorAt(check, "xxx", 0);
        errorAt(check, "=x=x", 1);
        errorAt(check, "=[0][0]", 2);
        errorAt(check, "=]^v[5]", 1);
        errorAt(check, "=".repeat(20) + "==", 20);
        errorAt(check, "^3" + "=".repeat(58), 1);
    }

    private static void noShapeBegins(Check check) {
        String full = "v2[10]".repeat(9) + "v2[1";
        check.same("the length of 58 characters", full.length(), 58);
        errorAt(check, full, 58);
        errorAt(check, full + "x", 58);
        errorAt(check, full + "0x", 59);
        errorAt(check, full + "0]", 60);
        errorAt(check, full + "]=", 60);
        String last = "=".repeat(19) + "^";
        for (String rest : new String[] {"", "2", "2[", "2[9", "2[99", "2[99]", "[", "[1]"}) {
            errorAt(check, last + rest, 20 + rest.length());
        }
        errorAt(check, last + "^", 20);
        errorAt(check, last + "2=", 21);
        errorAt(check, last + "2[99]=", 25);
        errorAt(check, last + "[1]v", 23);
    }

    /** A shape may have more than 60 characters; the buffer has then no error, but is not complete. */
    private static void shapesLongerThanTheBuffer(Check check) {
        for (String rest : new String[] {"v2[", "v[1", "[12"}) {
            String text = "v2[10]".repeat(9) + "===" + rest;
            check.same("the length of " + text, text.length(), 60);
            errorAt(check, text, 60);
            check.refusesAll("shape of " + text, () -> Check.typed(text), ARGUMENT, HangingChain::shape);
        }
    }

    private static void errorAt(Check check, String text, int due) {
        HangingChain x = Check.typed(text);
        check.same("firstError of " + text, x.firstError(), due);
        if (due < text.length()) {
            check.refuses("shape of " + text, x, ARGUMENT, x::shape);
        }
    }

    private static HangingChain three() {
        HangingChain x = Check.shaped("v[30]=[80]^[5]");
        x.hanger(1, 7);
        x.prop(1, 8);
        return x;
    }

    private static void eachSaves(Check check) {
        Supplier<HangingChain> maker = RulesSentences::three;
        check.undoes("link", maker, x -> x.link(2));
        check.undoes("cut", maker, x -> x.cut(0));
        check.undoes("bend", maker, x -> x.bend(0, 2));
        check.undoes("turn", maker, HangingChain::turn);
        check.undoes("weight", maker, x -> x.weight(1, 31));
        check.undoes("hanger", maker, x -> x.hanger(1, 31));
        check.undoes("prop", maker, x -> x.prop(1, 31));
        check.undoes("move", maker, x -> x.move(1, 2));
        check.undoes("set", maker, x -> x.set(0, 2));
        HangingChain typed = three();
        Check.type(typed, "=v");
        typed.shape();
        check.same("shape, saved states", typed.count(10), 4);
        typed.undo();
        check.same("shape, undone", typed.digest(), three().digest());
    }

    private static void savesUnchanged(Check check) {
        Supplier<HangingChain> maker = RulesSentences::three;
        check.undoes("bend to the same", maker, x -> x.bend(0, -1));
        check.undoes("turn one link", HangingChain::new, HangingChain::turn);
        check.undoes("the same weight", maker, x -> x.weight(1, 30));
        check.undoes("the same hanger", maker, x -> x.hanger(1, 7));
        check.undoes("the same prop", maker, x -> x.prop(1, 8));
        check.undoes("move nothing", maker, x -> x.move(0, 1));
        check.undoes("the same setting", maker, x -> x.set(3, 60));
        HangingChain x = Check.typed("=");
        x.shape();
        check.same("the same shape, saved states", x.count(10), 1);
        HangingChain full = Check.shaped("=[9]=[99]");
        full.move(1, 2);
        check.same("move to a full joint, saved states", full.count(10), 2);
    }

    private static void refusedSavesNothing(Check check) {
        HangingChain x = new HangingChain();
        check.refuses("link", x, ARGUMENT, () -> x.link(3));
        check.refuses("cut", x, STATE, () -> x.cut(0));
        check.refuses("bend", x, ARGUMENT, () -> x.bend(0, 3));
        check.refuses("weight", x, ARGUMENT, () -> x.weight(0, 100));
        check.refuses("hanger", x, ARGUMENT, () -> x.hanger(0, 100));
        check.refuses("prop", x, ARGUMENT, () -> x.prop(0, 100));
        check.refuses("move", x, ARGUMENT, () -> x.move(0, 0));
        check.refuses("set", x, ARGUMENT, () -> x.set(0, 21));
        check.refuses("shape", x, ARGUMENT, x::shape);
        check.same("saved states", x.count(10), 0);
        check.refuses("undo", x, STATE, x::undo);
    }

    private static void othersSaveNothing(Check check) {
        HangingChain x = new HangingChain();
        x.append('=');
        x.firstError();
        x.clearBuffer();
        lookAtAll(x);
        check.same("saved states", x.count(10), 0);
        x.weight(1, 5);
        x.append('=');
        x.firstError();
        x.clearBuffer();
        lookAtAll(x);
        x.undo();
        check.same("undo saves nothing", x.count(10), 0);
    }

    private static void lookAtAll(HangingChain x) {
        x.linkOf(0, 1);
        x.joint(0, 7);
        x.count(5);
        x.setting(0);
        x.ifWeight(1, 99);
        x.mostWeight(1);
        x.bestMove(1);
        x.bestHanger(9);
        x.bestStep(0);
        x.evenness();
        x.digest();
    }

    private static void all(Check check) {
        HangingChain x = Check.shaped("v[10]=[20]^[30]");
        String[] before = new String[6];
        for (int k = 0; k < 4; k++) {
            x.hanger(k, 10 + k);
            x.prop(k, 20 + k);
        }
        x.set(0, 3);
        for (int k = 0; k < 6; k++) {
            before[k] = Check.held(x);
            change(x, k);
        }
        for (int k = 5; k >= 0; k--) {
            check.same("undo", x.undo(), k);
            check.text("all, " + k + " changes on", Check.held(x), before[k]);
        }
        check.text("settings", x.setting(0) + " " + x.setting(1) + " " + x.setting(2) + " " + x.setting(3),
            "103 98 101 160");
        check.text("steps", Check.steps(x), "-1 0 1");
        check.text("weights", Check.joints(x, 1), "0 10 20 30");
        check.text("hangers", Check.joints(x, 2), "10 11 12 13");
        check.text("props", Check.joints(x, 3), "20 21 22 23");
    }

    private static void change(HangingChain x, int which) {
        switch (which) {
            case 0:
                x.set(1, 5);
                break;
            case 1:
                x.move(3, 1);
                break;
            case 2:
                x.bend(1, -2);
                break;
            case 3:
                x.link(1);
                break;
            case 4:
                x.cut(2);
                break;
            default:
                Check.type(x, "^2[99]");
                x.shape();
                break;
        }
    }

    private static void notTheBuffer(Check check) {
        HangingChain x = Check.typed("=v");
        x.weight(1, 5);
        Check.type(x, "^2");
        x.undo();
        check.same("the buffer is as long as before undo", x.firstError(), 4);
        check.same("its length", x.clearBuffer(), 4);
        x.weight(1, 6);
        x.undo();
        check.same("it stays empty", x.clearBuffer(), 0);
        Check.type(x, "v");
        x.shape();
        x.undo();
        check.same("it stays empty behind a shape", x.clearBuffer(), 0);
        Check.type(x, "v".repeat(60));
        x.turn();
        x.undo();
        check.same("it stays full", x.clearBuffer(), 60);
    }

    private static void notTheSavedStates(Check check) {
        HangingChain x = new HangingChain();
        for (int weight = 1; weight <= 4; weight++) {
            x.weight(1, weight);
        }
        for (int left = 3; left >= 0; left--) {
            x.undo();
            check.same("saved states", x.count(10), left);
        }
        x.weight(1, 9);
        check.same("saved states, one more", x.count(10), 1);
        x.undo();
        check.refuses("undo", x, STATE, x::undo);
    }

    private static void atMost6(Check check) {
        HangingChain x = new HangingChain();
        int[] due = {0, 1, 2, 3, 4, 5, 6, 6, 6, 6, 6, 6, 6, 6, 6, 6};
        for (int saves = 0; saves < due.length; saves++) {
            check.same("saved behind " + saves, x.count(10), due[saves]);
            x.weight(1, saves);
        }
        for (int left = 5; left >= 0; left--) {
            check.same("undo", x.undo(), left);
        }
        check.refuses("undo once more", x, STATE, x::undo);
    }

    private static void oldestIsDropped(Check check) {
        for (int saves = 1; saves <= 20; saves++) {
            HangingChain x = new HangingChain();
            for (int weight = 1; weight <= saves; weight++) {
                x.weight(1, weight);
            }
            int oldest = Math.max(0, saves - 6);
            for (int weight = saves - 1; weight >= oldest; weight--) {
                check.same("undo of " + saves, x.undo(), weight - oldest);
                check.same("the weight", x.joint(1, 1), weight);
            }
            check.refuses("undo of " + saves + " once more", x, STATE, x::undo);
            check.same("the weight stays", x.joint(1, 1), oldest);
        }
    }

    private static void droppedAgainAndAgain(Check check) {
        HangingChain x = new HangingChain();
        for (int weight = 1; weight <= 8; weight++) {
            x.weight(1, weight);
        }
        for (int k = 0; k < 3; k++) {
            x.undo();
        }
        check.same("the weight, three of eight undone", x.joint(1, 1), 5);
        for (int weight = 11; weight <= 15; weight++) {
            x.weight(1, weight);
        }
        int[] due = {14, 13, 12, 11, 5, 4};
        for (int k = 0; k < due.length; k++) {
            check.same("undo", x.undo(), 5 - k);
            check.same("the weight", x.joint(1, 1), due[k]);
        }
        check.refuses("undo once more", x, STATE, x::undo);
    }

    /** One link, six saved states that all differ, and half a weight in the buffer. */
    private static HangingChain oneLink() {
        HangingChain x = new HangingChain();
        for (int weight = 1; weight <= 8; weight++) {
            x.weight(1, weight);
        }
        Check.type(x, "=v[1");
        return x;
    }

    /** 20 links, six saved states that all differ, and a full buffer. */
    private static HangingChain twentyLinks() {
        HangingChain x = Check.shaped("v2[7]" + "=[9]^2".repeat(9) + "v");
        for (int joint = 1; joint <= 8; joint++) {
            x.hanger(joint, joint);
        }
        Check.type(x, "=".repeat(60));
        return x;
    }

    private static void refusedOfOneLink(Check check) {
        Supplier<HangingChain> maker = RulesSentences::oneLink;
        check.refusesAll("link(-3)", maker, ARGUMENT, x -> x.link(-3));
        check.refusesAll("cut(1)", maker, INDEX, x -> x.cut(1));
        check.refusesAll("cut(0)", maker, STATE, x -> x.cut(0));
        check.refusesAll("bend(1, 0)", maker, INDEX, x -> x.bend(1, 0));
        check.refusesAll("bend(0, 3)", maker, ARGUMENT, x -> x.bend(0, 3));
        check.refusesAll("weight(2, 0)", maker, INDEX, x -> x.weight(2, 0));
        check.refusesAll("weight(1, 100)", maker, ARGUMENT, x -> x.weight(1, 100));
        check.refusesAll("hanger(2, 0)", maker, INDEX, x -> x.hanger(2, 0));
        check.refusesAll("hanger(1, 100)", maker, ARGUMENT, x -> x.hanger(1, 100));
        check.refusesAll("prop(2, 0)", maker, INDEX, x -> x.prop(2, 0));
        check.refusesAll("prop(1, 100)", maker, ARGUMENT, x -> x.prop(1, 100));
        check.refusesAll("move(1, 2)", maker, INDEX, x -> x.move(1, 2));
        check.refusesAll("move(2, 1)", maker, INDEX, x -> x.move(2, 1));
        check.refusesAll("move(1, 1)", maker, ARGUMENT, x -> x.move(1, 1));
        check.refusesAll("set(4, 0)", maker, INDEX, x -> x.set(4, 0));
        check.refusesAll("set(3, 0)", maker, ARGUMENT, x -> x.set(3, 0));
        check.refusesAll("ifWeight(2, 0)", maker, INDEX, x -> x.ifWeight(2, 0));
        check.refusesAll("ifWeight(1, 100)", maker, ARGUMENT, x -> x.ifWeight(1, 100));
        check.refusesAll("mostWeight(2)", maker, INDEX, x -> x.mostWeight(2));
        check.refusesAll("bestMove(2)", maker, INDEX, x -> x.bestMove(2));
        check.refusesAll("bestHanger(100)", maker, ARGUMENT, x -> x.bestHanger(100));
        check.refusesAll("bestStep(1)", maker, INDEX, x -> x.bestStep(1));
        check.refusesAll("linkOf(1, 0)", maker, INDEX, x -> x.linkOf(1, 0));
        check.refusesAll("linkOf(0, 3)", maker, ARGUMENT, x -> x.linkOf(0, 3));
        check.refusesAll("joint(2, 0)", maker, INDEX, x -> x.joint(2, 0));
        check.refusesAll("joint(1, 8)", maker, ARGUMENT, x -> x.joint(1, 8));
        check.refusesAll("count(11)", maker, ARGUMENT, x -> x.count(11));
        check.refusesAll("setting(4)", maker, INDEX, x -> x.setting(4));
    }

    private static void refusedOf20Links(Check check) {
        Supplier<HangingChain> maker = RulesSentences::twentyLinks;
        check.refusesAll("link(0)", maker, STATE, x -> x.link(0));
        check.refusesAll("cut(20)", maker, INDEX, x -> x.cut(20));
        check.refusesAll("bend(20, 0)", maker, INDEX, x -> x.bend(20, 0));
        check.refusesAll("weight(21, 0)", maker, INDEX, x -> x.weight(21, 0));
        check.refusesAll("hanger(21, 0)", maker, INDEX, x -> x.hanger(21, 0));
        check.refusesAll("prop(21, 0)", maker, INDEX, x -> x.prop(21, 0));
        check.refusesAll("move(0, 21)", maker, INDEX, x -> x.move(0, 21));
        check.refusesAll("move(20, 20)", maker, ARGUMENT, x -> x.move(20, 20));
        check.refusesAll("set(1, -41)", maker, ARGUMENT, x -> x.set(1, -41));
        check.refusesAll("mostWeight(21)", maker, INDEX, x -> x.mostWeight(21));
        check.refusesAll("bestMove(21)", maker, INDEX, x -> x.bestMove(21));
        check.refusesAll("bestStep(20)", maker, INDEX, x -> x.bestStep(20));
    }

    private static void refusedTexts(Check check) {
        Supplier<HangingChain> maker = RulesSentences::oneLink;
        check.refusesAll("append(32)", maker, ARGUMENT, x -> x.append(32));
        check.refusesAll("append(127)", maker, ARGUMENT, x -> x.append(127));
        check.refusesAll("shape of half a weight", maker, ARGUMENT, HangingChain::shape);
        Supplier<HangingChain> full = RulesSentences::twentyLinks;
        check.refusesAll("append to a full buffer", full, STATE, x -> x.append('='));
        check.refusesAll("shape of 60 links", full, ARGUMENT, HangingChain::shape);
        check.refusesAll("undo of nothing", () -> Check.typed("=v"), STATE, HangingChain::undo);
    }

    private static void firstOfSeveralExceptions(Check check) {
        Supplier<HangingChain> one = RulesSentences::oneLink;
        Supplier<HangingChain> twenty = RulesSentences::twentyLinks;
        check.refusesAll("link(3) at 20 links", twenty, ARGUMENT, x -> x.link(3));
        check.refusesAll("link(-3) at 20 links", twenty, ARGUMENT, x -> x.link(-3));
        check.refusesAll("cut(1) of one link", one, INDEX, x -> x.cut(1));
        check.refusesAll("cut(-1) of one link", one, INDEX, x -> x.cut(-1));
        check.refusesAll("bend(1, 3)", one, INDEX, x -> x.bend(1, 3));
        check.refusesAll("weight(2, 100)", one, INDEX, x -> x.weight(2, 100));
        check.refusesAll("hanger(2, 100)", one, INDEX, x -> x.hanger(2, 100));
        check.refusesAll("prop(-1, -1)", one, INDEX, x -> x.prop(-1, -1));
        check.refusesAll("move(2, 2)", one, INDEX, x -> x.move(2, 2));
        check.refusesAll("move(-1, -1)", one, INDEX, x -> x.move(-1, -1));
        check.refusesAll("set(4, 1000)", one, INDEX, x -> x.set(4, 1000));
        check.refusesAll("set(-1, -41)", one, INDEX, x -> x.set(-1, -41));
        check.refusesAll("append(32) to a full buffer", twenty, ARGUMENT, x -> x.append(32));
        check.refusesAll("append(127) to a full buffer", twenty, ARGUMENT, x -> x.append(127));
        check.refusesAll("linkOf(1, 3)", one, INDEX, x -> x.linkOf(1, 3));
        check.refusesAll("joint(2, 8)", one, INDEX, x -> x.joint(2, 8));
        check.refusesAll("ifWeight(2, 100)", one, INDEX, x -> x.ifWeight(2, 100));
        check.refusesAll("ifWeight(-1, -1)", one, INDEX, x -> x.ifWeight(-1, -1));
    }

    private static void none(Check check) {
        check.same("NONE", HangingChain.NONE, -1);
        HangingChain x = Check.shaped("^2");
        x.set(3, 1);
        check.same("mostWeight of what breaks", x.mostWeight(0), HangingChain.NONE);
        check.same("bestMove without weight", x.bestMove(0), HangingChain.NONE);
        check.same("bestHanger without joints between", x.bestHanger(9), HangingChain.NONE);
    }

    private static void leaves(Check check, String call, Consumer<HangingChain> work) {
        check.leavesAll(call + " of one link", RulesSentences::oneLink, work);
        check.leavesAll(call + " of 20 links", RulesSentences::twentyLinks, work);
    }

    private static void looksChangeNothing(Check check) {
        for (int k = 0; k <= 10; k++) {
            int what = k;
            leaves(check, "count(" + what + ")", x -> x.count(what));
        }
        for (int k = 0; k <= 7; k++) {
            int what = k;
            leaves(check, "joint(1, " + what + ")", x -> x.joint(1, what));
        }
        for (int k = 0; k <= 2; k++) {
            int what = k;
            leaves(check, "linkOf(0, " + what + ")", x -> x.linkOf(0, what));
        }
        for (int k = 0; k <= 3; k++) {
            int setting = k;
            leaves(check, "setting(" + setting + ")", x -> x.setting(setting));
        }
        leaves(check, "firstError()", HangingChain::firstError);
    }

    private static void whatWouldBeChangesNothing(Check check) {
        leaves(check, "ifWeight(1, 99)", x -> x.ifWeight(1, 99));
        leaves(check, "mostWeight(1)", x -> x.mostWeight(1));
        leaves(check, "bestMove(1)", x -> x.bestMove(1));
        leaves(check, "bestHanger(99)", x -> x.bestHanger(99));
        leaves(check, "bestStep(0)", x -> x.bestStep(0));
        leaves(check, "evenness()", HangingChain::evenness);
        leaves(check, "digest()", HangingChain::digest);
    }
}
