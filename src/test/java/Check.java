import java.util.function.Consumer;
import java.util.function.Supplier;

/** Counts what is not as due, and tells it. */
final class Check {
    private int wrong = 0;
    private String about = "";

    /** What comes is told as a fault of this. */
    void about(String what) {
        about = what + ": ";
    }

    void same(String call, long got, long due) {
        if (got != due) {
            tell(call + " answered " + got + ", due is " + due);
        }
    }

    void same(String call, double got, double due) {
        if (Double.doubleToLongBits(got) != Double.doubleToLongBits(due)) {
            tell(call + " answered " + got + ", due is " + due);
        }
    }

    /** The call must throw just this kind, and must leave the object as it was. */
    void refuses(String call, HangingChain x, Class<? extends Exception> due, Runnable work) {
        long before = x.digest();
        throwsJust(call, due, work);
        same(call + " refused, digest", x.digest(), before);
    }

    /** As refuses, and the saved states stay, too. */
    void refusesAll(String call, Supplier<HangingChain> maker, Class<? extends Exception> due,
            Consumer<HangingChain> work) {
        HangingChain x = maker.get();
        throwsJust(call, due, () -> work.accept(x));
        text(call + " refused, all that is held", drained(x), drained(maker.get()));
    }

    private void throwsJust(String call, Class<? extends Exception> due, Runnable work) {
        String got = "nothing";
        try {
            work.run();
        } catch (RuntimeException thrown) {
            got = thrown.getClass().getSimpleName();
        }
        if (!got.equals(due.getSimpleName())) {
            tell(call + " throws " + got + ", due is " + due.getSimpleName());
        }
    }

    /** The call must leave all as it was, the saved states and the buffer, too. */
    void leavesAll(String call, Supplier<HangingChain> maker, Consumer<HangingChain> work) {
        HangingChain x = maker.get();
        work.accept(x);
        text(call + " done, all that is held", drained(x), drained(maker.get()));
    }

    /** The call must save one state, just the one from before it. */
    void undoes(String call, Supplier<HangingChain> maker, Consumer<HangingChain> work) {
        HangingChain x = maker.get();
        String before = held(x);
        int saved = Math.min(5, x.count(10));
        work.accept(x);
        same(call + ", saved states", x.count(10), saved + 1);
        same(call + ", undo", x.undo(), saved);
        text(call + ", undone", held(x), before);
        same(call + ", saved states behind undo", x.count(10), saved);
    }

    /** What the links and joints have, and the settings. */
    static String held(HangingChain x) {
        StringBuilder told = new StringBuilder();
        told.append(steps(x)).append(';');
        for (int what = 1; what <= 3; what++) {
            told.append(joints(x, what)).append(';');
        }
        for (int setting = 0; setting <= 3; setting++) {
            told.append(x.setting(setting)).append(';');
        }
        return told.toString();
    }

    void tell(String fault) {
        wrong++;
        System.out.println(about + fault);
    }

    int wrong() {
        return wrong;
    }

    void end() {
        if (wrong > 0) {
            System.out.println(wrong + " answers are not as due");
            System.exit(1);
        }
    }

    /** All that an object holds, saved states and buffer, too; they are used up by this. */
    private static String drained(HangingChain x) {
        StringBuilder told = new StringBuilder();
        told.append(x.digest());
        for (int k = 0; k <= 6; k++) {
            try {
                told.append(' ').append(x.undo()).append(' ').append(x.digest());
            } catch (IllegalStateException thrown) {
                told.append(" none");
            }
        }
        return told.toString();
    }

    static HangingChain typed(String text) {
        HangingChain x = new HangingChain();
        type(x, text);
        return x;
    }

    static void type(HangingChain x, String text) {
        for (int k = 0; k < text.length(); k++) {
            x.append(text.charAt(k));
        }
    }

    static HangingChain shaped(String text) {
        HangingChain x = typed(text);
        x.shape();
        return x;
    }

    static String steps(HangingChain x) {
        StringBuilder told = new StringBuilder();
        int links = x.count(0);
        for (int k = 0; k < links; k++) {
            told.append(x.linkOf(k, 0) - 2).append(' ');
        }
        return told.toString().trim();
    }

    /** One number of each joint, from the joint 0 on. */
    static String joints(HangingChain x, int what) {
        StringBuilder told = new StringBuilder();
        int links = x.count(0);
        for (int k = 0; k <= links; k++) {
            told.append(x.joint(k, what)).append(' ');
        }
        return told.toString().trim();
    }

    static String forces(HangingChain x) {
        return links(x, 1);
    }

    /** One number of each link, from the link 0 on. */
    static String links(HangingChain x, int what) {
        StringBuilder told = new StringBuilder();
        int links = x.count(0);
        for (int k = 0; k < links; k++) {
            told.append(x.linkOf(k, what)).append(' ');
        }
        return told.toString().trim();
    }

    void text(String what, String got, String due) {
        if (!got.equals(due)) {
            tell(what + " is " + got + ", due is " + due);
        }
    }
}
