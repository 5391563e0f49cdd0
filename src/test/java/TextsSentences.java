import java.util.function.Supplier;

/** Trials of the promises 11 to 15. */
final class TextsSentences {
    private static final Class<IllegalArgumentException> ARGUMENT = IllegalArgumentException.class;
    private static final Class<IllegalStateException> STATE = IllegalStateException.class;

    static void tell(Sentences s) {
        append(s);
        read(s);
        shape(s);
        s.under("Promise 15");
        s.hold("Restores the latest saved state", TextsSentences::undoTheLatest);
        s.hold("and drops it", TextsSentences::undoDrops);
        s.hold("Returns how many saved states are left.", TextsSentences::undoTellsLeft);
        s.hold("Throws `IllegalStateException` if there is none", TextsSentences::undoOfNothing);
    }

    private static void append(Sentences s) {
        s.under("Promise 11");
        s.hold("Appends a character to the buffer.", TextsSentences::appendComesLast);
        s.hold("- `code`: the character code, 33 to 126", TextsSentences::appendEachCode);
        s.hold("Returns the new length of the buffer.", TextsSentences::appendTellsLength);
        s.hold("Throws `IllegalArgumentException` if code is not 33 to 126", TextsSentences::appendNoCode);
        s.hold("Throws `IllegalStateException` if the buffer has 60 characters", TextsSentences::appendAt60);
        s.under("Promise 12");
        s.hold("Clears the buffer.", TextsSentences::clear);
        s.hold("Returns the length that it had.", TextsSentences::clearTellsLength);
    }

    private static void read(Sentences s) {
        s.under("Promise 13");
        s.hold("Finds the first syntax error of the buffer.", TextsSentences::errorIsFoundAnew);
        s.hold("Returns the index of the first character that is a syntax error", TextsSentences::errorAtEachPlace);
        s.hold("the length of the buffer if there is none", TextsSentences::noError);
    }

    private static void shape(Sentences s) {
        s.under("Promise 14");
        s.hold("Makes the chain anew by the shape in the buffer", TextsSentences::shapeMakesAnew);
        s.hold("without hangers and props", TextsSentences::shapeWithoutHangersAndProps);
        s.hold("and clears the buffer", TextsSentences::shapeClears);
        s.hold("the joint 0 has no weight", TextsSentences::shapeWithoutWeightAt0);
        s.hold("Undoable.", TextsSentences::shapeIsUndone);
        s.hold("Returns how many links it had.", TextsSentences::shapeTellsLinksBefore);
        s.hold("Throws `IllegalArgumentException` if the buffer is not a complete shape as a text",
            TextsSentences::shapeNotComplete);
    }

    private static void appendComesLast(Check check) {
        HangingChain x = Check.typed("v");
        x.append('2');
        x.append('[');
        x.append('1');
        x.append('0');
        x.append(']');
        x.shape();
        check.same("the step", x.linkOf(0, 0), 0);
        check.same("the weight", x.joint(1, 1), 10);
    }

    private static void appendEachCode(Check check) {
        for (int code = 33; code <= 126; code++) {
            HangingChain x = new HangingChain();
            check.same("append " + code, x.append(code), 1);
            check.same("digest with " + code, x.digest(), WouldBeTest.byTheFace(x, "" + (char) code));
        }
    }

    private static void appendTellsLength(Check check) {
        HangingChain x = new HangingChain();
        for (int length = 1; length <= 60; length++) {
            check.same("append", x.append(33 + length), length);
        }
        x.clearBuffer();
        check.same("append to a cleared buffer", x.append('='), 1);
        check.same("append one more", x.append('='), 2);
        x.shape();
        check.same("append behind a shape", x.append('='), 1);
    }

    private static void appendNoCode(Check check) {
        HangingChain x = Check.typed("=");
        for (int code : new int[] {Integer.MIN_VALUE, -61, -1, 0, 10, 31, 32, 127, 128, 255, 256 + 61, 65536 + 61,
            Integer.MAX_VALUE}) {
            check.refuses("append(" + code + ")", x, ARGUMENT, () -> x.append(code));
        }
        check.same("the buffer's length", x.clearBuffer(), 1);
    }

    private static void appendAt60(Check check) {
        HangingChain x = Check.typed("~".repeat(59));
        check.same("append to 59", x.append('!'), 60);
        for (int code : new int[] {33, 61, 126}) {
            check.refuses("append(" + code + ") to 60", x, STATE, () -> x.append(code));
        }
        check.same("the buffer's length", x.clearBuffer(), 60);
        check.same("append behind it", x.append('='), 1);
    }

    private static void clear(Check check) {
        HangingChain x = Check.typed("=x");
        x.clearBuffer();
        check.same("firstError", x.firstError(), 0);
        check.refuses("shape", x, ARGUMENT, x::shape);
        check.same("digest as of a new object", x.digest(), new HangingChain().digest());
        x.append('^');
        check.same("firstError of what came then", x.firstError(), 1);
        x.shape();
        check.text("steps of what came then", Check.steps(x), "1");
        check.same("it is not undoable", x.count(10), 1);
    }

    private static void clearTellsLength(Check check) {
        for (int length : new int[] {0, 1, 59, 60}) {
            HangingChain x = Check.typed("=".repeat(length));
            check.same("clearBuffer of " + length, x.clearBuffer(), length);
            check.same("clearBuffer again", x.clearBuffer(), 0);
        }
    }

    private static void errorIsFoundAnew(Check check) {
        HangingChain x = new HangingChain();
        String text = "v[50]=2^";
        int[] due = {1, 2, 3, 4, 5, 6, 6, 6};
        for (int k = 0; k < due.length; k++) {
            x.append(text.charAt(k));
            check.same("firstError of " + text.substring(0, k + 1), x.firstError(), due[k]);
            check.same("firstError again", x.firstError(), due[k]);
        }
        x.clearBuffer();
        check.same("firstError of nothing", x.firstError(), 0);
        check.same("it changes nothing", x.digest(), new HangingChain().digest());
    }

    private static void errorAtEachPlace(Check check) {
        String right = "v2[10]".repeat(10);
        for (int place = 0; place < 60; place++) {
            String text = right.substring(0, place) + "x" + right.substring(place + 1);
            check.same("firstError of " + text, Check.typed(text).firstError(), place);
        }
    }

    private static void noError(Check check) {
        String right = "v2[10]".repeat(10);
        for (int length = 0; length <= 60; length++) {
            String text = right.substring(0, length);
            check.same("firstError of " + text, Check.typed(text).firstError(), length);
        }
    }

    private static HangingChain laden() {
        HangingChain x = Check.shaped("v2[1]=[2]^[3]");
        x.weight(0, 9);
        for (int joint = 0; joint <= 3; joint++) {
            x.hanger(joint, 10 + joint);
            x.prop(joint, 20 + joint);
        }
        x.set(1, 7);
        return x;
    }

    private static void shapeMakesAnew(Check check) {
        HangingChain shorter = laden();
        Check.type(shorter, "^2");
        shorter.shape();
        check.text("steps of a shorter one", Check.steps(shorter), "2");
        check.text("weights of a shorter one", Check.joints(shorter, 1), "0 0");
        check.same("settings stay", shorter.setting(1), 107);
        HangingChain longer = laden();
        Check.type(longer, "^[99]v==^2[1]");
        longer.shape();
        check.text("steps of a longer one", Check.steps(longer), "1 -1 0 0 2");
        check.text("weights of a longer one", Check.joints(longer, 1), "0 99 0 0 0 1");
        HangingChain longest = laden();
        Check.type(longest, "v2".repeat(20) + "[50]");
        longest.shape();
        check.same("links of the longest", longest.count(0), 20);
        check.same("weights of the longest", longest.count(1), 50);
        HangingChain same = laden();
        Check.type(same, "v2[1]=[2]^[3]");
        same.shape();
        check.text("steps of the same", Check.steps(same), "-2 0 1");
        check.text("weights of the same", Check.joints(same, 1), "0 1 2 3");
    }

    private static void shapeWithoutHangersAndProps(Check check) {
        HangingChain x = laden();
        Check.type(x, "====");
        x.shape();
        check.text("hangers", Check.joints(x, 2), "0 0 0 0 0");
        check.text("props", Check.joints(x, 3), "0 0 0 0 0");
        HangingChain one = laden();
        Check.type(one, "=");
        one.shape();
        one.link(0);
        one.link(0);
        check.text("hangers of links put then", Check.joints(one, 2), "0 0 0 0");
        check.text("props of links put then", Check.joints(one, 3), "0 0 0 0");
    }

    private static void shapeClears(Check check) {
        HangingChain x = Check.typed("v2[10]".repeat(10));
        x.shape();
        check.same("the buffer's length", x.clearBuffer(), 0);
        Check.type(x, "=");
        x.shape();
        check.refuses("shape again", x, ARGUMENT, x::shape);
        check.same("append", x.append('='), 1);
    }

    private static void shapeWithoutWeightAt0(Check check) {
        for (int weight : new int[] {0, 1, 99}) {
            HangingChain x = new HangingChain();
            x.weight(0, weight);
            Check.type(x, "=[5]=[6]");
            x.shape();
            check.text("weights", Check.joints(x, 1), "0 5 6");
        }
    }

    private static void shapeIsUndone(Check check) {
        Supplier<HangingChain> maker = TextsSentences::laden;
        HangingChain x = maker.get();
        Check.type(x, "=v[7]");
        int saved = x.count(10);
        x.shape();
        check.same("saved states", x.count(10), Math.min(6, saved + 1));
        x.undo();
        check.text("steps", Check.steps(x), "-2 0 1");
        check.text("weights", Check.joints(x, 1), "9 1 2 3");
        check.text("hangers", Check.joints(x, 2), "10 11 12 13");
        check.text("props", Check.joints(x, 3), "20 21 22 23");
        check.same("the buffer stays cleared", x.clearBuffer(), 0);
        HangingChain fresh = Check.shaped("=");
        check.same("one state of a new object", fresh.count(10), 1);
        fresh.undo();
        check.same("digest, undone", fresh.digest(), new HangingChain().digest());
    }

    private static void shapeTellsLinksBefore(Check check) {
        HangingChain x = Check.typed("=".repeat(20));
        check.same("shape of 20 links, before it one", x.shape(), 1);
        Check.type(x, "=");
        check.same("shape of one link, before it 20", x.shape(), 20);
        Check.type(x, "==");
        check.same("shape of two links, before it one", x.shape(), 1);
    }

    private static void shapeNotComplete(Check check) {
        String[] wrong = {"", "=[", "=[1", "=[12", "^2[9", "x", "=x", "=2", "=[0]", "=[100]", "=[]", "[5]",
            "=".repeat(21), "=".repeat(20) + "[", "=".repeat(20) + "[5", "=".repeat(60), "v2[10]".repeat(9) + "v2[10["};
        for (String text : wrong) {
            check.refusesAll("shape of " + text, () -> Check.typed(text), ARGUMENT, HangingChain::shape);
            check.same("the buffer stays, " + text, stays(text), text.length());
        }
        HangingChain x = Check.typed("=[5");
        check.refuses("shape of half a weight", x, ARGUMENT, x::shape);
        x.append(']');
        check.same("shape, completed", x.shape(), 1);
        check.same("its weight", x.joint(1, 1), 5);
    }

    private static int stays(String text) {
        HangingChain x = Check.typed(text);
        try {
            x.shape();
        } catch (IllegalArgumentException thrown) {
            return x.clearBuffer();
        }
        return -1;
    }

    private static void undoTheLatest(Check check) {
        HangingChain x = new HangingChain();
        x.weight(1, 5);
        x.weight(1, 6);
        x.link(2);
        x.set(3, 9);
        x.undo();
        check.same("the setting", x.setting(3), 160);
        check.same("links", x.count(0), 2);
        x.undo();
        check.same("links, one more undone", x.count(0), 1);
        check.same("the weight", x.joint(1, 1), 6);
        x.undo();
        check.same("the weight, one more undone", x.joint(1, 1), 5);
        x.undo();
        check.same("the weight, all undone", x.joint(1, 1), 0);
        check.same("digest, all undone", x.digest(), new HangingChain().digest());
    }

    private static void undoDrops(Check check) {
        HangingChain x = new HangingChain();
        x.weight(1, 5);
        x.undo();
        check.same("saved states", x.count(10), 0);
        x.weight(1, 7);
        x.weight(1, 8);
        x.undo();
        x.weight(1, 9);
        x.undo();
        check.same("the weight", x.joint(1, 1), 7);
        x.undo();
        check.same("the weight, all undone", x.joint(1, 1), 0);
        check.refuses("undo once more", x, STATE, x::undo);
    }

    private static void undoTellsLeft(Check check) {
        HangingChain x = new HangingChain();
        for (int k = 0; k < 7; k++) {
            x.turn();
        }
        for (int left = 5; left >= 0; left--) {
            check.same("undo", x.undo(), left);
            check.same("saved states", x.count(10), left);
        }
    }

    private static void undoOfNothing(Check check) {
        HangingChain x = Check.typed("=v");
        check.refuses("undo of a new object", x, STATE, x::undo);
        x.shape();
        x.undo();
        check.refuses("undo, all undone", x, STATE, x::undo);
        check.refuses("undo again", x, STATE, x::undo);
        check.same("links", x.count(0), 1);
        x.link(0);
        check.same("undo behind a change", x.undo(), 0);
    }
}
