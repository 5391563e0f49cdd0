/** Counts what is not as due, and tells it. */
final class Check {
    private int wrong = 0;

    void same(String call, long got, long due) {
        if (got != due) {
            tell(call + " answered " + got + ", due is " + due);
        }
    }

    void same(String call, double got, double due) {
        if (Double.doubleToLongBits(got) != Double.doubleToLongBits(due)) {
            tell(call + " answered " + got + ", due is " + due);
        }
    }

    /** The call must throw just this kind, and must leave the object as it was. */
    void refuses(String call, HangingChain x, Class<? extends Exception> due, Runnable work) {
        long before = x.digest();
        String got = "nothing";
        try {
            work.run();
        } catch (RuntimeException thrown) {
            got = thrown.getClass().getSimpleName();
        }
        if (!got.equals(due.getSimpleName())) {
            tell(call + " throws " + got + ", due is " + due.getSimpleName());
        }
        same(call + " refused, digest", x.digest(), before);
    }

    void tell(String fault) {
        wrong++;
        System.out.println(fault);
    }

    int wrong() {
        return wrong;
    }

    void end() {
        if (wrong > 0) {
            System.out.println(wrong + " answers are not as due");
            System.exit(1);
        }
    }

    static HangingChain typed(String text) {
        HangingChain x = new HangingChain();
        type(x, text);
        return x;
    }

    static void type(HangingChain x, String text) {
        for (int k = 0; k < text.length(); k++) {
            x.append(text.charAt(k));
        }
    }

    static HangingChain shaped(String text) {
        HangingChain x = typed(text);
        x.shape();
        return x;
    }

    static String steps(HangingChain x) {
        StringBuilder told = new StringBuilder();
        for (int k = 0; k < x.count(0); k++) {
            told.append(x.linkOf(k, 0) - 2).append(' ');
        }
        return told.toString().trim();
    }

    /** One number of each joint, from the joint 0 on. */
    static String joints(HangingChain x, int what) {
        StringBuilder told = new StringBuilder();
        for (int k = 0; k <= x.count(0); k++) {
            told.append(x.joint(k, what)).append(' ');
        }
        return told.toString().trim();
    }

    static String forces(HangingChain x) {
        StringBuilder told = new StringBuilder();
        for (int k = 0; k < x.count(0); k++) {
            told.append(x.linkOf(k, 1)).append(' ');
        }
        return told.toString().trim();
    }

    void text(String what, String got, String due) {
        if (!got.equals(due)) {
            tell(what + " is " + got + ", due is " + due);
        }
    }
}
