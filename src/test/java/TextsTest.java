/** Promises 11 to 15. */
public final class TextsTest {
    private static final Class<IllegalArgumentException> ARGUMENT = IllegalArgumentException.class;
    private static final Class<IllegalStateException> STATE = IllegalStateException.class;

    public static void main(String[] args) {
        Check check = new Check();
        append(check);
        clearBuffer(check);
        firstError(check);
        firstErrorAgain(check);
        eachCharacter(check);
        fullBuffer(check);
        shape(check);
        shapeRefused(check);
        undo(check);
        undoLeavesTheBuffer(check);
        check.end();
    }

    private static void append(Check check) {
        HangingChain x = new HangingChain();
        check.same("11: append 33", x.append(33), 1);
        check.same("11: append 126", x.append(126), 2);
        for (int code : new int[] {Integer.MIN_VALUE, -1, 0, 32, 127, 255, 65536 + 61, Integer.MAX_VALUE}) {
            check.refuses("11: append " + code, x, ARGUMENT, () -> x.append(code));
        }
        for (int k = 3; k <= 60; k++) {
            check.same("11: append", x.append('='), k);
        }
        check.refuses("11: append to a full buffer", x, STATE, () -> x.append('='));
        check.refuses("11: append 32 to a full buffer", x, ARGUMENT, () -> x.append(32));
        check.same("11: not undoable", x.count(10), 0);
    }

    private static void clearBuffer(Check check) {
        HangingChain x = Check.typed("=x");
        check.same("12: clearBuffer", x.clearBuffer(), 2);
        check.same("12: clearBuffer again", x.clearBuffer(), 0);
        check.same("12: not undoable", x.count(10), 0);
        check.same("12: append behind it", x.append('^'), 1);
        check.same("12: what was cleared is gone", x.firstError(), 1);
        check.same("12: digest as that of a new buffer", x.digest(), Check.typed("^").digest());
    }

    private static void errorAt(Check check, String text, int due) {
        HangingChain x = Check.typed(text);
        long before = x.digest();
        check.same("13: firstError of " + text, x.firstError(), due);
        check.same("13: digest behind it", x.digest(), before);
    }

    private static void firstError(Check check) {
        String links20 = "=^^2vv2=^^2vv2=^^2vv2=^^2vv2";
        String[] right = {"", "=", "^", "v", "^2", "v2", "=[", "=[1", "=[12", "=[9]", "=[99]", "^2[10]v[5]=",
            links20, links20 + "[", links20 + "[40]", "====================[1]", "^^^^^^^^^^^^^^^^^^^^2[9"};
        for (String text : right) {
            errorAt(check, text, text.length());
        }
        errorAt(check, "x", 0);
        errorAt(check, "2", 0);
        errorAt(check, "[5]", 0);
        errorAt(check, "]", 0);
        errorAt(check, "=2", 1);
        errorAt(check, "^1", 1);
        errorAt(check, "^3", 1);
        errorAt(check, "V", 0);
        errorAt(check, "v22", 2);
        errorAt(check, "v]", 1);
        errorAt(check, "v[0", 2);
        errorAt(check, "v[]", 2);
        errorAt(check, "v[=", 2);
        errorAt(check, "v[123", 4);
        errorAt(check, "v[10]2", 5);
        errorAt(check, "v[10][", 5);
        errorAt(check, "v[5[", 3);
        errorAt(check, "v[5=", 3);
        errorAt(check, "v[5]x=x", 4);
        errorAt(check, links20 + "=", links20.length());
        errorAt(check, links20 + "2", links20.length());
        errorAt(check, links20 + "[7]v", links20.length() + 3);
        errorAt(check, "=====================", 20);
    }

    /** What was read before must not count. */
    private static void firstErrorAgain(Check check) {
        HangingChain x = Check.typed("v[");
        check.same("13: firstError", x.firstError(), 2);
        check.same("13: firstError again", x.firstError(), 2);
        x.append('5');
        check.same("13: firstError behind a digit", x.firstError(), 3);
        x.append(']');
        x.shape();
        Check.type(x, "[5]");
        check.same("13: firstError behind a shape", x.firstError(), 0);
        check.refuses("14: shape behind a shape", x, ARGUMENT, x::shape);
        x.clearBuffer();
        check.refuses("14: shape of nothing behind a shape", x, ARGUMENT, x::shape);
    }

    /** Behind each of these, just these characters are right. */
    private static void eachCharacter(Check check) {
        String[][] cases = {{"", "=^v"}, {"=", "=^v["}, {"^", "=^v[2"}, {"v", "=^v[2"}, {"^2", "=^v["},
            {"v2", "=^v["}, {"=[", "123456789"}, {"v[7", "0123456789]"}, {"v[70", "]"}, {"^[7]", "=^v"},
            {"===================^", "2["}, {"====================", "["}, {"====================[4]", ""}};
        for (String[] one : cases) {
            for (char code = 33; code <= 126; code++) {
                boolean right = one[1].indexOf(code) >= 0;
                int length = one[0].length();
                errorAt(check, one[0] + code, right ? length + 1 : length);
            }
        }
    }

    private static void fullBuffer(Check check) {
        String nine = "v2[10]v2[11]v2[12]v2[13]v2[14]v2[15]v2[16]v2[17]v2[18]";
        errorAt(check, nine + "v2[19]", 60);
        errorAt(check, nine + "===v[1", 60);
        HangingChain x = Check.typed(nine + "===v[1");
        check.refuses("14: shape cut off at 60", x, ARGUMENT, x::shape);
        HangingChain full = Check.shaped(nine + "v2[19]");
        check.text("14: weights of 60", Check.joints(full, 1), "0 10 11 12 13 14 15 16 17 18 19");
        check.same("14: height of 60", full.joint(10, 0), 80);
    }

    private static void shape(Check check) {
        HangingChain x = Check.shaped("==[7]===");
        for (int joint = 0; joint <= 5; joint++) {
            x.hanger(joint, 10);
            x.prop(joint, 20);
        }
        x.weight(0, 30);
        x.set(1, 5);
        Check.type(x, "^2[10]=v2[99]v^[1]");
        check.same("14: shape", x.shape(), 5);
        check.text("14: steps", Check.steps(x), "2 0 -2 -1 1");
        check.text("14: weights", Check.joints(x, 1), "0 10 0 99 0 1");
        check.text("14: hangers", Check.joints(x, 2), "0 0 0 0 0 0");
        check.text("14: props", Check.joints(x, 3), "0 0 0 0 0 0");
        check.same("14: settings stay", x.setting(1), 105);
        check.same("14: the buffer is cleared", x.clearBuffer(), 0);
        check.same("14: undo", x.undo(), 5);
        check.text("14: weights undone", Check.joints(x, 1), "30 0 7 0 0 0");
        check.text("14: hangers undone", Check.joints(x, 2), "10 10 10 10 10 10");
        Check.type(x, "=");
        check.same("14: shape of one link", x.shape(), 5);
        check.same("14: one link", x.count(0), 1);
        x.link(0);
        x.link(0);
        check.text("14: nothing of the old joints", Check.joints(x, 3), "0 0 0 0");
        HangingChain longest = Check.shaped("^^^^^^^^^^^^^^^^^^^^2[99]");
        check.same("14: 20 links", longest.count(0), 20);
        check.same("14: their height", longest.joint(20, 0), 121);
        check.same("14: the last weight", longest.joint(20, 1), 99);
    }

    private static void shapeRefused(Check check) {
        String[] wrong = {"", "=[", "=[1", "=[12", "x", "=x", "==2", "=====================", "v[0]", "v[5]]"};
        for (String text : wrong) {
            HangingChain x = Check.typed(text);
            check.refuses("14: shape of " + text, x, ARGUMENT, x::shape);
            check.same("14: the buffer stays, " + text, x.clearBuffer(), text.length());
        }
    }

    private static void undo(Check check) {
        HangingChain x = new HangingChain();
        check.refuses("15: undo of nothing", x, STATE, x::undo);
        long[] digests = new long[10];
        for (int k = 0; k < 9; k++) {
            digests[k] = state(x);
            x.weight(1, k + 1);
        }
        check.same("15: at most 6 saved", x.count(10), 6);
        for (int left = 5; left >= 0; left--) {
            check.same("15: undo", x.undo(), left);
            check.same("15: weight", x.joint(1, 1), left + 3);
            check.same("15: state", state(x), digests[left + 3]);
        }
        check.refuses("15: the oldest ones are dropped", x, STATE, x::undo);
        x.link(2);
        x.undo();
        check.same("15: undo behind undo", x.count(0), 1);
        x.link(1);
        x.cut(0);
        check.same("15: saved", x.count(10), 2);
    }

    private static long state(HangingChain x) {
        return x.joint(1, 1) * 1000L + x.count(0) * 100L + x.setting(3);
    }

    private static void undoLeavesTheBuffer(Check check) {
        HangingChain x = Check.shaped("=v");
        Check.type(x, "^^");
        check.same("15: undo", x.undo(), 0);
        check.same("15: links", x.count(0), 1);
        check.same("15: the buffer stays", x.clearBuffer(), 2);
        Check.type(x, "v[5]");
        x.shape();
        x.undo();
        check.same("15: the buffer stays empty", x.clearBuffer(), 0);
    }
}
